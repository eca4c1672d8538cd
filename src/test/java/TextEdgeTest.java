/** Each boundary case of THE STRAND and of the text that tells it: one method for one sentence of the document. */
public final class TextEdgeTest {
    private static final int BAD = WindFrontiers.BAD;
    private static final int FULL = WindFrontiers.FULL;
    private static final int NONE = WindFrontiers.NONE;
    private static final int MOST_NUMBER = 130;
    private static final Due DUE = new Due("TextEdgeTest");

    public static void main(String[] args) {
        theSmallestStrand();
        theLargestStrand();
        strandsOfAllSizes();
        cellsHaveNumbers();
        allFamilies();
        clothOnEveryRightSide();
        windFromTheLeftAtFirst();
        bytesOfType();
        aTextOf150Bytes();
        aTextReadToItsLastByte();
        blanksMayBe();
        blanksMustBe();
        blanksAloneAreBlanks();
        noItems();
        manyItems();
        threeByThreeElse();
        theStrandIsToldFirst();
        holdersOfNobodysCells();
        clothWhereThereIsNone();
        windOnceAtMost();
        aFaultByEachFirstByte();
        aFaultByEachByteInside();
        lettersSideBySide();
        numbersBeyond();
        numbersWithZerosAhead();
        numbersThatWrapAround();
        tokensInWrongPlaces();
        textsThatEndTooEarly();
        theFirstFaultOfSeveral();
        aFaultChangesNothing();
        readAnew();
        DUE.end();
    }

    private static void read(String text, int items) {
        DUE.is("strand() of [" + text + "]", Told.answer(text), items);
    }

    private static void fault(String text, int place) {
        DUE.is("strand() of [" + text + "], a FAULT", Told.answer(text), -10 - place);
    }

    private static void theSmallestStrand() {
        WindFrontiers w = Told.strand("g1 1;");
        DUE.is("1 by 1: WIDE", w.count(0), 1);
        DUE.is("1 by 1: ROWS", w.count(1), 1);
        DUE.is("1 by 1: (0, 0)", w.cell(0, 0, 2), 1);
        DUE.is("1 by 1: (1, 0)", w.cell(1, 0, 2), BAD);
        DUE.is("1 by 1: (0, 1)", w.cell(0, 1, 2), BAD);
    }

    private static void theLargestStrand() {
        WindFrontiers w = Told.strand("g5 4;");
        DUE.is("5 by 4: WIDE", w.count(0), 5);
        DUE.is("5 by 4: ROWS", w.count(1), 4);
        DUE.is("5 by 4: (4, 3)", w.cell(4, 3, 2), 1);
        DUE.is("5 by 4: (5, 3)", w.cell(5, 3, 2), BAD);
        DUE.is("5 by 4: (4, 4)", w.cell(4, 4, 2), BAD);
    }

    private static void strandsOfAllSizes() {
        for (int wide = 0; wide <= 6; wide++) {
            for (int rows = 0; rows <= 5; rows++) {
                String text = "g" + wide + " " + rows + ";";
                if (wide < 1 || wide > 5) {
                    fault(text, 1);
                } else if (rows < 1 || rows > 4) {
                    fault(text, 3);
                } else {
                    cellsOf(wide, rows);
                }
            }
        }
    }

    private static void cellsOf(int wide, int rows) {
        WindFrontiers w = Told.strand("g" + wide + " " + rows + ";");
        for (int x = -1; x <= 6; x++) {
            for (int y = -1; y <= 5; y++) {
                boolean is = x >= 0 && x < wide && y >= 0 && y < rows;
                DUE.is(wide + " by " + rows + ": (" + x + ", " + y + ")", w.cell(x, y, 2), is ? 1 : BAD);
            }
        }
    }

    private static void cellsHaveNumbers() {
        for (int wide = 1; wide <= 5; wide++) {
            WindFrontiers w = Told.strand("g" + wide + " 4;");
            for (int y = 0; y < 4; y++) {
                for (int x = 0; x < wide; x++) {
                    String place = wide + " wide, (" + x + ", " + y + "): ";
                    w.takes(1, x, y);
                    w.puts(x, y, 1);
                    DUE.is(place + "CELLS held", w.now(3), 1 << (5 * y + x));
                    DUE.is(place + "CELLS of 1", w.family(1, 0), 1 << (5 * y + x));
                    DUE.is(place + "cloth", w.now(2), 1 << (5 * y + x));
                    w.puts(x, y, 0);
                    w.leaves(x, y);
                }
            }
        }
    }

    private static void allFamilies() {
        WindFrontiers w = Told.strand("g5 1;o0 4 0;o1 3 0;o2 2 0;o3 1 0;o4 0 0;");
        for (int f = 0; f <= 4; f++) {
            DUE.is("CELLS of " + f, w.family(f, 0), 1 << (4 - f));
            DUE.is("holder", w.cell(4 - f, 0, 0), f);
        }
        DUE.is("CELLS of 5", w.family(5, 0), BAD);
        fault("g5 1;o5 0 0;", 6);
    }

    private static void clothOnEveryRightSide() {
        WindFrontiers w = Told.strand("g5 4;");
        for (int number = 0; number < 20; number++) {
            DUE.is("cloth on " + number, w.puts(number % 5, number / 5, 1), number + 1);
        }
        DUE.is("cloth everywhere", w.now(2), (1 << 20) - 1);
        read("g5 4;c4 3;c4 0;c0 3;", 4);
        read("g1 1;c0 0;", 2);
    }

    private static void windFromTheLeftAtFirst() {
        DUE.is("WIND of a new object", new WindFrontiers().now(0), 0);
        DUE.is("WIND that was not told", Told.strand("g2 2;").now(0), 0);
        DUE.is("WIND told as 0", Told.strand("w0;").now(0), 0);
        DUE.is("WIND told as 1", Told.strand("w1;").now(0), 1);
        WindFrontiers w = Told.strand("w1;");
        Told.types(w, "c0 0;");
        DUE.is("items without WIND", w.strand(), 1);
        DUE.is("WIND that was not told anew", w.now(0), 0);
    }

    private static void bytesOfType() {
        WindFrontiers w = new WindFrontiers();
        int had = 0;
        for (int c = -300; c <= 600; c++) {
            if (had == 140) {
                DUE.is("clear()", w.clear(), 140);
                had = 0;
            }
            boolean isByte = c >= 0 && c <= 255;
            had += isByte ? 1 : 0;
            DUE.is("type(" + c + ")", w.type(c), isByte ? had : BAD);
        }
        DUE.is("type(65536 + 103), no byte", w.type(65536 + 103), BAD);
        DUE.is("type(the least)", w.type(Integer.MIN_VALUE), BAD);
        DUE.is("type(the most)", w.type(Integer.MAX_VALUE), BAD);
    }

    private static void aTextOf150Bytes() {
        WindFrontiers w = new WindFrontiers();
        for (int i = 1; i <= 150; i++) {
            DUE.is("type(), the " + i + ".", w.type(i == 1 ? 'w' : i == 2 ? '1' : i == 3 ? ';' : ' '), i);
        }
        DUE.is("type(), the 151.", w.type(';'), FULL);
        DUE.is("type(), once more", w.type(';'), FULL);
        DUE.is("BAD is ahead of FULL", w.type(256), BAD);
        DUE.is("bytes", w.count(4), 150);
        DUE.is("nothing came to THE TEXT", w.strand(), 1);
        DUE.is("empty then", w.count(4), 0);
        DUE.is("type() of an empty one", w.type('w'), 1);
    }

    private static void aTextReadToItsLastByte() {
        read(" ".repeat(147) + "w1;", 1);
        read("w1;" + " ".repeat(147), 1);
        fault(" ".repeat(147) + "w1x", 149);
        fault(" ".repeat(149) + "g", 150);
        fault("g" + " ".repeat(149), 150);
        fault(" ".repeat(149) + "z", 149);
        fault("w" + "1".repeat(149), 1);
        fault("w".repeat(150), 0);
        fault("w" + " ".repeat(148) + "2", 149);
    }

    private static void blanksMayBe() {
        read("g5 4;o4 4 3;c4 3;w1;", 4);
        read("   g   5   4   ;   o   4   4   3   ;   c   4   3   ;   w   1   ;   ", 4);
        read(" w0;", 1);
        read("w0; ", 1);
        read("w 0;", 1);
        read("w0 ;", 1);
    }

    private static void blanksMustBe() {
        fault("g54;", 1);
        fault("g5 4;c43;", 6);
        fault("o0 12;", 3);
        read("g5 4;c4 3;", 2);
    }

    private static void blanksAloneAreBlanks() {
        for (int c : new int[] {0, 9, 10, 11, 12, 13, 31, 33, 127, 133, 160}) {
            fault("w" + (char) c + "1;", 1);
            fault("w1;" + (char) c, 3);
            fault((char) c + "w1;", 0);
        }
    }

    private static void noItems() {
        read("", 0);
        read(" ", 0);
        read(" ".repeat(150), 0);
    }

    private static void manyItems() {
        StringBuilder held = new StringBuilder("g5 4;");
        StringBuilder cloth = new StringBuilder("g5 4;");
        for (int number = 0; number < 20; number++) {
            String place = number % 5 + " " + number / 5 + ";";
            held.append("o").append(number % 5).append(" ").append(place);
            cloth.append("c").append(place);
        }
        DUE.is("bytes of all that is held", held.length(), 145);
        read(held + "w0;", 22);
        read(cloth + "w1;o4 4 3;", 23);
    }

    private static void threeByThreeElse() {
        WindFrontiers w = Told.strand("g5 4;o0 4 3;");
        Told.types(w, "o1 2 2;");
        DUE.is("items without a size", w.strand(), 1);
        DUE.is("WIDE else", w.count(0), 3);
        DUE.is("ROWS else", w.count(1), 3);
        DUE.is("held", w.now(3), 1 << 12);
        fault("o1 3 2;", 3);
        fault("o1 2 3;", 5);
        fault("c3 2;", 1);
        fault("c2 3;", 3);
    }

    private static void theStrandIsToldFirst() {
        fault("w0;g3 3;", 3);
        fault("c0 0;g3 3;", 5);
        fault("o0 0 0;g3 3;", 7);
        fault("g3 3;g3 3;", 5);
        read(" g3 3;w0;", 2);
    }

    private static void holdersOfNobodysCells() {
        read("o0 1 1;o0 1 2;o0 2 1;", 3);
        fault("o0 1 1;o0 1 1;", 12);
        fault("o0 1 1;o1 1 1;", 12);
        fault("o0 1 1;o1 1  1;", 13);
        read("c1 1;o0 1 1;", 2);
        WindFrontiers w = Told.strand("c1 1;o4 1 1;");
        DUE.is("holder of a CELL with cloth", w.cell(1, 1, 0), 4);
        DUE.is("cloth of a CELL that is held", w.cell(1, 1, 1), 1);
    }

    private static void clothWhereThereIsNone() {
        read("c1 1;c1 2;c2 1;", 3);
        fault("c1 1;c1 1;", 8);
        read("o0 1 1;c1 1;", 2);
        fault("o0 1 1;c1 1;c1 1;", 15);
    }

    private static void windOnceAtMost() {
        fault("w0;w0;", 3);
        fault("w0;c0 0;w1;", 8);
        fault("w0;w", 3);
        read("c0 0;w1;", 2);
    }

    private static void aFaultByEachFirstByte() {
        for (int c = 0; c <= 255; c++) {
            String text = String.valueOf((char) c);
            if (c == ' ') {
                read(text, 0);
            } else {
                fault(text, "gocw".indexOf(c) >= 0 ? 1 : 0);
                fault("w1;" + text, c == 'o' || c == 'c' ? 4 : 3);
            }
        }
    }

    private static void aFaultByEachByteInside() {
        for (int c = 0; c <= 255; c++) {
            String text = String.valueOf((char) c);
            boolean isLetter = c >= 'a' && c <= 'z';
            boolean isDigit = c >= '0' && c <= '9';
            if (c != ' ') {
                fault("w" + text, isLetter ? 0 : c == '0' || c == '1' ? 2 : 1);
                fault("w " + text, c == '0' || c == '1' ? 3 : 2);
            }
            if (c != ' ' && c != ';') {
                fault("w1" + text, isDigit ? 1 : 2);
                fault("w1 " + text, 3);
            }
        }
    }

    private static void lettersSideBySide() {
        for (char letter = 'a'; letter <= 'z'; letter++) {
            fault("g" + letter + "3 3;", 0);
            fault("w0;" + letter + "o0 0 0;", 3);
            fault("w " + letter, 2);
        }
        fault("g g3 3;", 2);
    }

    private static void numbersBeyond() {
        for (int n = 0; n <= MOST_NUMBER; n++) {
            number("g", n, " 3;", 1, 5);
            number("g3 ", n, ";", 1, 4);
            number("o", n, " 0 0;", 0, 4);
            number("o0 ", n, " 0;", 0, 2);
            number("o0 0 ", n, ";", 0, 2);
            number("c", n, " 0;", 0, 2);
            number("c0 ", n, ";", 0, 2);
            number("w", n, ";", 0, 1);
        }
    }

    private static void number(String ahead, int n, String behind, int least, int most) {
        if (n >= least && n <= most) {
            read(ahead + n + behind, 1);
        } else {
            fault(ahead + n + behind, ahead.length());
        }
    }

    private static void numbersWithZerosAhead() {
        for (String number : new String[] {"00", "01", "001", "000", "010", "0100"}) {
            fault("w" + number + ";", 1);
            fault("g3 " + number + ";", 3);
            fault("o0 0 " + number + ";", 5);
            fault("c" + number + " 0;", 1);
        }
        read("w0;", 1);
    }

    private static void numbersThatWrapAround() {
        for (String number : new String[] {"256", "257", "65537", "2147483648", "4294967296", "4294967297",
            "4294967298", "18446744073709551616", "18446744073709551617", "18446744073709551618"}) {
            fault("w" + number + ";", 1);
            fault("g" + number + " 1;", 1);
            fault("g1 " + number + ";", 3);
            fault("o" + number + " 0 0;", 1);
            fault("c0 " + number + ";", 3);
        }
    }

    private static void tokensInWrongPlaces() {
        fault(";", 0);
        fault("0", 0);
        fault("w;", 1);
        fault("w w;", 2);
        fault("w0 0;", 3);
        fault("w0w1;", 2);
        fault("w0;;", 3);
        fault("w0;0", 3);
        fault("g3;", 2);
        fault("g3 g", 3);
        fault("g3 3 3;", 5);
        fault("o0 0;", 4);
        fault("o0 0 0 0;", 7);
        fault("c0;", 2);
        fault("c0 0 0;", 5);
    }

    private static void textsThatEndTooEarly() {
        String text = "g5 4;o1 4 3;c4 0;w1;";
        int items = 0;
        for (int length = 0; length <= text.length(); length++) {
            String cut = text.substring(0, length);
            if (length == 0 || cut.endsWith(";")) {
                items += length == 0 ? 0 : 1;
                read(cut, items);
                read(cut + "  ", items);
            } else {
                fault(cut, length);
                fault(cut + "  ", length + 2);
            }
        }
    }

    private static void theFirstFaultOfSeveral() {
        fault("x1;w2;", 0);
        fault("w2;x", 1);
        fault("w0;w1;w2;", 3);
        fault("c3 3;", 1);
        fault("g6 5;", 1);
        fault("o5 3 3;", 1);
        fault("w0;%;w2;", 3);
    }

    private static void aFaultChangesNothing() {
        WindFrontiers w = Told.strand("g2 2;o1 1 1;c0 0;w1;");
        Told.types(w, "g5 4;o0 0 0;c4 3;w0;x");
        DUE.is("a FAULT behind four ITEMS", w.strand(), -10 - 20);
        DUE.is("WIDE", w.count(0), 2);
        DUE.is("ROWS", w.count(1), 2);
        DUE.is("holder of (1, 1)", w.cell(1, 1, 0), 1);
        DUE.is("holder of (0, 0)", w.cell(0, 0, 0), NONE);
        DUE.is("cloth", w.now(2), 1);
        DUE.is("WIND", w.now(0), 1);
        DUE.is("bytes", w.count(4), 21);
        DUE.is("the same again", w.strand(), -10 - 20);
        Told.types(w, ";");
        DUE.is("one byte more", w.count(4), 22);
        DUE.is("and again", w.strand(), -10 - 20);
        DUE.is("clear()", w.clear(), 22);
        Told.types(w, "o0 0 0;c2 2;w1;");
        DUE.is("nothing is left of what was not read", w.strand(), 3);
        DUE.is("cloth then", w.now(2), 1 << 12);
        DUE.is("held then", w.now(3), 1);
    }

    private static void readAnew() {
        WindFrontiers w = Told.strand("g1 1;");
        w.tide(1);
        w.mark(0, 0, 0);
        w.keep(0);
        w.keep(1);
        w.saw(0, 0, 0, 0);
        Told.types(w, "g5 4;o2 3 0;");
        DUE.is("read anew", w.strand(), 2);
        DUE.is("THE TEXT is empty", w.count(4), 0);
        DUE.is("TIDE 0", w.now(1), 0);
        DUE.is("DRY again", w.cell(3, 0, 2), 1);
        DUE.is("as told", w.now(3), 8);
        DUE.is("nothing SEEN", w.forget(), 0);
        DUE.is("nothing to be UNDONE", w.undo(), WindFrontiers.STATE);
        DUE.is("IMAGE 0 is gone", w.back(0), WindFrontiers.STATE);
        DUE.is("IMAGE 1 is gone", w.back(1), WindFrontiers.STATE);
        DUE.is("THE TRACE stays", w.trace(), 1);
        DUE.is("it may be kept again", w.keep(1), 0);
        DUE.is("and had", w.back(1), 0);
    }
}
