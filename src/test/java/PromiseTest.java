/** For each promise: ordinary inputs, the edges that the document names, wrong inputs. */
public final class PromiseTest {
    private static final int BAD = WindFrontiers.BAD;
    private static final int STATE = WindFrontiers.STATE;
    private static final int FULL = WindFrontiers.FULL;
    private static final int NONE = WindFrontiers.NONE;
    private static final int NO = WindFrontiers.NO;
    private static final int[] FAR = {-1, Integer.MIN_VALUE, Integer.MAX_VALUE};

    private static final Due DUE = new Due("PromiseTest");

    public static void main(String[] args) {
        constants();
        aNewObject();
        type();
        clear();
        strandTold();
        strandFaults();
        strandReadAnew();
        cell();
        family();
        takes();
        leaves();
        puts();
        veers();
        tide();
        undo();
        now();
        border();
        water();
        help();
        odds();
        saw();
        forget();
        moved();
        mark();
        images();
        count();
        trace();
        DUE.end();
    }

    private static void constants() {
        DUE.is("BAD", BAD, -1);
        DUE.is("STATE", STATE, -2);
        DUE.is("FULL", FULL, -3);
        DUE.is("NONE", NONE, -9);
        DUE.is("NO", NO, -1000000);
    }

    private static void aNewObject() {
        WindFrontiers w = new WindFrontiers();
        int[] counts = {3, 3, 0, 0, 0};
        for (int what = 0; what < counts.length; what++) {
            DUE.is("new: count(" + what + ")", w.count(what), counts[what]);
        }
        for (int what = 0; what <= 5; what++) {
            DUE.is("new: now(" + what + ")", w.now(what), 0);
        }
        DUE.is("new: trace()", w.trace(), 0);
        DUE.is("new: undo()", w.undo(), STATE);
        DUE.is("new: back(0)", w.back(0), STATE);
        DUE.is("new: back(1)", w.back(1), STATE);
        DUE.is("new: clear()", w.clear(), 0);
        DUE.is("new: forget()", w.forget(), 0);
        DUE.is("new: cell(2, 2, 2)", w.cell(2, 2, 2), 1);
        DUE.is("new: cell(2, 2, 0)", w.cell(2, 2, 0), NONE);
        DUE.is("new: cell(3, 2, 0)", w.cell(3, 2, 0), BAD);
        DUE.is("new: cell(2, 3, 0)", w.cell(2, 3, 0), BAD);
    }

    private static void type() {
        WindFrontiers w = new WindFrontiers();
        DUE.is("type(0)", w.type(0), 1);
        DUE.is("type(255)", w.type(255), 2);
        DUE.is("type(256)", w.type(256), BAD);
        for (int far : FAR) {
            DUE.is("type(" + far + ")", w.type(far), BAD);
        }
        for (int i = 3; i <= 150; i++) {
            DUE.is("type(32), the " + i + ".", w.type(32), i);
        }
        DUE.is("type(32), the 151.", w.type(32), FULL);
        DUE.is("type(-1), ahead of FULL", w.type(-1), BAD);
        DUE.is("count(4) of a full text", w.count(4), 150);
        DUE.is("strand(): a byte that begins no TOKEN", w.strand(), -10);
        DUE.is("clear()", w.clear(), 150);
        DUE.is("type(32) after clear()", w.type(32), 1);
        wholeText();
    }

    private static void wholeText() {
        WindFrontiers w = new WindFrontiers();
        for (int i = 0; i < 146; i++) {
            w.type(' ');
        }
        Told.types(w, "w 1;");
        DUE.is("150 bytes", w.count(4), 150);
        DUE.is("strand() of 150 bytes", w.strand(), 1);
        DUE.is("WIND at the text's end", w.now(0), 1);
    }

    private static void clear() {
        WindFrontiers w = new WindFrontiers();
        DUE.is("clear() of nothing", w.clear(), 0);
        Told.types(w, "w1;");
        DUE.is("clear()", w.clear(), 3);
        DUE.is("clear() again", w.clear(), 0);
        DUE.is("strand() after clear()", w.strand(), 0);
        DUE.is("now(0) after clear()", w.now(0), 0);
    }

    private static void items(String text, int want) {
        WindFrontiers w = new WindFrontiers();
        Told.types(w, text);
        DUE.is("strand() of [" + text + "]", w.strand(), want);
        DUE.is("bytes left of [" + text + "]", w.count(4), 0);
    }

    private static void strandTold() {
        items("", 0);
        items("     ", 0);
        items(" ".repeat(150), 0);
        items("g5 4;", 1);
        items("g1 1;", 1);
        items("  g  5   4  ;  ", 1);
        items("o4 2 2;", 1);
        items("c2 2;c0 0;", 2);
        items("w0;", 1);
        items("w 1 ; o 0 0 0 ;c 0 0;", 3);
        items("g2 1;o0 1 0;o1 0 0;c1 0;w1;", 5);
        WindFrontiers w = Told.strand("g4 2;o3 3 1;o0 0 0;c2 1;w1;");
        DUE.is("WIDE", w.count(0), 4);
        DUE.is("ROWS", w.count(1), 2);
        DUE.is("held by 3", w.family(3, 0), 1 << 8);
        DUE.is("held by 0", w.family(0, 0), 1);
        DUE.is("cloth", w.now(2), 1 << 7);
        DUE.is("WIND", w.now(0), 1);
    }

    private static void fault(String text, int place) {
        WindFrontiers w = Told.strand("g2 2;o1 1 1;c0 0;w1;");
        w.takes(2, 0, 0);
        w.saw(0, 0, 0, 1);
        w.keep(1);
        Told.types(w, text);
        DUE.is("strand() of [" + text + "]", w.strand(), -10 - place);
        DUE.is("strand() again of [" + text + "]", w.strand(), -10 - place);
        DUE.is("bytes left of [" + text + "]", w.count(4), text.length());
        DUE.is("WIDE after a FAULT", w.count(0), 2);
        DUE.is("SEEN after a FAULT", w.count(2), 1);
        DUE.is("UNDONE after a FAULT", w.count(3), 1);
        DUE.is("held after a FAULT", w.now(3), 65);
        DUE.is("cloth after a FAULT", w.now(2), 1);
        DUE.is("WIND after a FAULT", w.now(0), 1);
        DUE.is("back(1) after a FAULT", w.back(1), 0);
    }

    private static void strandFaults() {
        fault("g", 1);
        fault("g ", 2);
        fault("g5 4", 4);
        fault("g5 4  ", 6);
        fault("g5 4;o", 6);
        fault("g0 1;", 1);
        fault("g6 1;", 1);
        fault("g1 0;", 3);
        fault("g1 5;", 3);
        fault("g 1 2 3;", 6);
        fault("g12;", 1);
        fault("g1;", 2);
        fault("g;", 1);
        fault("gg1 1;", 0);
        fault("go", 0);
        fault("g o", 2);
        fault("w0;g1 1;", 3);
        fault("g1 1;g1 1;", 5);
        fault(";", 0);
        fault("g1 1;;", 5);
        fault("1", 0);
        fault("  x1;", 2);
        fault("G1 1;", 0);
        fault("gA", 1);
        fault("g 1-", 3);
        fault("g1 1.", 4);
        fault("`", 0);
        fault("{", 0);
        fault("w/;", 1);
        fault("w:;", 1);
        fault("g\t1 1;", 1);
        fault("w0;\n", 3);
        fault("o5 0 0;", 1);
        fault("o4 3 0;", 3);
        fault("o4 0 3;", 5);
        fault("g1 4;o4 1 0;", 8);
        fault("g5 1;o4 4 1;", 10);
        fault("o0 1 2;o0 1 2;", 12);
        fault("o0 1 2;o1 1 2;", 12);
        fault("o0 1 2;o1 1  2", 13);
        fault("o0 1;", 4);
        fault("o0 1 1 1;", 7);
        fault("c3 0;", 1);
        fault("c0 3;", 3);
        fault("c1 1;c 1 1;", 9);
        fault("c1 1 1;", 5);
        fault("w2;", 1);
        fault("w0;w1;", 3);
        fault("w1;w", 3);
        fault("w;", 1);
        fault("w01;", 1);
        fault("w00;", 1);
        fault("w100;", 1);
        fault("w99;", 1);
        fault("w4294967296;", 1);
        fault("w 99999999999999999999", 2);
        fault("c0 01;", 3);
        fault("c0 0 07;", 5);
        fault("w1 a;", 3);
        fault("w1o;", 2);
        fault("ga1 1;", 0);
        fault("gz1 1;", 0);
        fault("c0 19;", 3);
        fault("c0 90;", 3);
        fault("c0 09;", 3);
        fault("c0 11", 3);
        fault("o10 0 0;", 1);
        fault("g5 100;", 3);
    }

    private static void strandReadAnew() {
        WindFrontiers w = Told.strand("g5 4;o1 4 3;o2 0 0;c4 3;c0 0;w1;");
        w.tide(1);
        w.saw(1, 1, 1, 1);
        w.keep(0);
        w.keep(1);
        w.mark(5, 0, 0);
        DUE.is("strand() of no bytes", w.strand(), 0);
        DUE.is("WIDE read anew", w.count(0), 3);
        DUE.is("ROWS read anew", w.count(1), 3);
        DUE.is("SEEN read anew", w.count(2), 0);
        DUE.is("UNDONE read anew", w.count(3), 0);
        DUE.is("undo() read anew", w.undo(), STATE);
        for (int what = 0; what <= 5; what++) {
            DUE.is("read anew: now(" + what + ")", w.now(what), 0);
        }
        DUE.is("family(1, 0) read anew", w.family(1, 0), 0);
        DUE.is("back(0) read anew", w.back(0), STATE);
        DUE.is("back(1) read anew", w.back(1), STATE);
        DUE.is("trace() read anew", w.trace(), 100001);
        afterAFault();
    }

    private static void afterAFault() {
        WindFrontiers w = new WindFrontiers();
        Told.types(w, "g5 4;o1 0 0;c0 0;w1;x");
        DUE.is("strand() with a FAULT at the end", w.strand(), -30);
        DUE.is("clear()", w.clear(), 21);
        Told.types(w, "o0 0 0;c0 0;w0;");
        DUE.is("strand() behind a FAULT", w.strand(), 3);
        DUE.is("WIDE", w.count(0), 3);
        DUE.is("held", w.family(0, 0), 1);
        DUE.is("not held", w.family(1, 0), 0);
    }

    private static void cell() {
        WindFrontiers w = Told.strand("g5 2;o3 2 1;c1 1;");
        int[] byLeft = {0, 0, 1, 1, 0};
        int[] byRight = {1, 1, 0, 0, 0};
        for (int x = 0; x < 5; x++) {
            DUE.is("STILL by 0 at " + x, w.cell(x, 1, 3), byLeft[x]);
            DUE.is("STILL by 1 at " + x, w.cell(x, 1, 4), byRight[x]);
            DUE.is("STILL by 0 in another ROW at " + x, w.cell(x, 0, 3), 0);
            DUE.is("STILL by 1 in another ROW at " + x, w.cell(x, 0, 4), 0);
            DUE.is("cloth at " + x, w.cell(x, 1, 1), x == 1 ? 1 : 0);
            DUE.is("holder at " + x, w.cell(x, 1, 0), x == 2 ? 3 : NONE);
        }
        w.tide(1);
        DUE.is("DRY below THE TIDE", w.cell(0, 0, 2), 0);
        DUE.is("DRY above THE TIDE", w.cell(0, 1, 2), 1);
        w.tide(1);
        DUE.is("STILL under water", w.cell(2, 1, 3), 0);
        DUE.is("holder under water", w.cell(2, 1, 0), NONE);
        DUE.is("cloth under water", w.cell(1, 1, 1), 0);
        edgesOfRows();
        for (int far : FAR) {
            DUE.is("cell(far, 0, 0)", w.cell(far, 0, 0), BAD);
            DUE.is("cell(0, far, 0)", w.cell(0, far, 0), BAD);
            DUE.is("cell(0, 0, far)", w.cell(0, 0, far), BAD);
        }
        DUE.is("cell(5, 0, 0)", w.cell(5, 0, 0), BAD);
        DUE.is("cell(0, 2, 0)", w.cell(0, 2, 0), BAD);
        DUE.is("cell(0, 0, 5)", w.cell(0, 0, 5), BAD);
    }

    private static void edgesOfRows() {
        WindFrontiers w = Told.strand("g5 2;c4 0;c3 0;c0 1;");
        DUE.is("cloth at a ROW's end keeps none STILL in the next", w.cell(0, 1, 3), 0);
        DUE.is("nor the second of the next", w.cell(1, 1, 3), 1);
        DUE.is("cloth at a ROW's begin keeps none STILL in the last", w.now(4) & 31, 1 << 4);
        w.veers();
        DUE.is("by 1", w.now(4), 4 | 8 | 16 | 32);
        WindFrontiers narrow = Told.strand("g3 2;c2 0;");
        DUE.is("cloth on the last right side, by 0", narrow.now(4), 0);
        narrow.veers();
        DUE.is("cloth on the last right side, by 1", narrow.now(4), 6);
    }

    private static void family() {
        WindFrontiers w = Told.strand("g5 4;o0 1 2;o0 3 1;o1 1 1;c0 2;c0 1;c3 1;");
        DUE.is("CELLS of 0", w.family(0, 0), (1 << 11) | (1 << 8));
        DUE.is("SHELTER of 0 by 0", w.family(0, 1), 1);
        DUE.is("SHELTER of 1 by 0", w.family(1, 1), 1);
        DUE.is("SHELTER of 2", w.family(2, 1), 0);
        w.veers();
        DUE.is("SHELTER of 0 by 1", w.family(0, 1), 1);
        DUE.is("SHELTER of 1 by 1", w.family(1, 1), 0);
        DUE.is("0 LOSES after", w.family(0, 2), 2);
        DUE.is("4 LOSES nothing", w.family(4, 2), NONE);
        w.tide(1);
        DUE.is("0 LOSES after, THE TIDE 1", w.family(0, 2), 1);
        w.tide(1);
        DUE.is("0 LOSES after, THE TIDE 2", w.family(0, 2), 1);
        DUE.is("CELLS of 0, THE TIDE 2", w.family(0, 0), 1 << 11);
        DUE.is("1 LOSES nothing more", w.family(1, 2), NONE);
        DUE.is("family(5, 0)", w.family(5, 0), BAD);
        DUE.is("family(0, 3)", w.family(0, 3), BAD);
        for (int far : FAR) {
            DUE.is("family(far, 0)", w.family(far, 0), BAD);
            DUE.is("family(0, far)", w.family(0, far), BAD);
        }
    }

    private static void takes() {
        WindFrontiers w = Told.strand("g4 3;o1 2 2;");
        DUE.is("takes(1, 0, 1)", w.takes(1, 0, 1), 2);
        DUE.is("takes(0, 0, 0)", w.takes(0, 0, 0), 1);
        DUE.is("takes of its own", w.takes(0, 0, 0), STATE);
        DUE.is("takes of another's", w.takes(4, 2, 2), STATE);
        DUE.is("may be UNDONE", w.count(3), 2);
        DUE.is("takes(5, 2, 2)", w.takes(5, 2, 2), BAD);
        DUE.is("takes(0, 4, 0)", w.takes(0, 4, 0), BAD);
        DUE.is("takes(0, 0, 3)", w.takes(0, 0, 3), BAD);
        w.tide(1);
        DUE.is("takes under water", w.takes(0, 3, 0), STATE);
        DUE.is("takes just above", w.takes(0, 3, 1), 1);
        DUE.is("holder of it", w.cell(3, 1, 0), 0);
        for (int far : FAR) {
            DUE.is("takes(far, 1, 1)", w.takes(far, 1, 1), BAD);
            DUE.is("takes(0, far, 1)", w.takes(0, far, 1), BAD);
            DUE.is("takes(0, 1, far)", w.takes(0, 1, far), BAD);
        }
        DUE.is("held in all", w.now(3), (1 << 5) | (1 << 8) | (1 << 12));
    }

    private static void leaves() {
        WindFrontiers w = Told.strand("o4 1 1;o0 2 2;c1 1;");
        DUE.is("leaves(1, 1)", w.leaves(1, 1), 4);
        DUE.is("leaves(1, 1) again", w.leaves(1, 1), STATE);
        DUE.is("cloth of a CELL that was LEFT", w.cell(1, 1, 1), 1);
        DUE.is("holder of a CELL that was LEFT", w.cell(1, 1, 0), NONE);
        DUE.is("others stay", w.now(3), 1 << 12);
        DUE.is("leaves(2, 2)", w.leaves(2, 2), 0);
        DUE.is("leaves(3, 0)", w.leaves(3, 0), BAD);
        DUE.is("leaves(0, 3)", w.leaves(0, 3), BAD);
        DUE.is("may be UNDONE", w.count(3), 2);
        w.takes(1, 0, 0);
        w.tide(1);
        DUE.is("leaves under water", w.leaves(0, 0), STATE);
        for (int far : FAR) {
            DUE.is("leaves(far, 0)", w.leaves(far, 0), BAD);
            DUE.is("leaves(0, far)", w.leaves(0, far), BAD);
        }
    }

    private static void puts() {
        WindFrontiers w = Told.strand("g5 4;c4 3;");
        DUE.is("puts(0, 1, 1)", w.puts(0, 1, 1), 2);
        DUE.is("puts(0, 1, 1) again", w.puts(0, 1, 1), STATE);
        DUE.is("puts(1, 1, 0) of none", w.puts(1, 1, 0), STATE);
        DUE.is("puts(4, 3, 0)", w.puts(4, 3, 0), 1);
        DUE.is("cloth", w.now(2), 32);
        DUE.is("may be UNDONE", w.count(3), 2);
        w.tide(1);
        DUE.is("puts under water", w.puts(0, 0, 1), STATE);
        DUE.is("pulls under water", w.puts(0, 0, 0), STATE);
        DUE.is("puts(0, 1, 2)", w.puts(0, 1, 2), BAD);
        DUE.is("puts(5, 0, 1)", w.puts(5, 0, 1), BAD);
        DUE.is("puts(0, 4, 1)", w.puts(0, 4, 1), BAD);
        for (int far : FAR) {
            DUE.is("puts(far, 1, 1)", w.puts(far, 1, 1), BAD);
            DUE.is("puts(1, far, 1)", w.puts(1, far, 1), BAD);
            DUE.is("puts(1, 1, far)", w.puts(1, 1, far), BAD);
        }
        DUE.is("puts(0, 1, 0)", w.puts(0, 1, 0), 0);
    }

    private static void veers() {
        WindFrontiers w = Told.strand("c0 0;");
        DUE.is("STILL by 0", w.now(4), 6);
        DUE.is("veers()", w.veers(), 1);
        DUE.is("WIND", w.now(0), 1);
        DUE.is("STILL by 1", w.now(4), 1);
        DUE.is("veers() back", w.veers(), 0);
        DUE.is("may be UNDONE", w.count(3), 2);
    }

    private static void tide() {
        WindFrontiers w = Told.strand("g2 2;o0 0 0;o1 1 1;c0 0;c0 1;w1;");
        DUE.is("tide(0) at 0", w.tide(0), STATE);
        DUE.is("tide(2)", w.tide(2), BAD);
        for (int far : FAR) {
            DUE.is("tide(far)", w.tide(far), BAD);
        }
        DUE.is("tide(1)", w.tide(1), 1);
        DUE.is("held at 1", w.now(3), 64);
        DUE.is("cloth at 1", w.now(2), 32);
        DUE.is("WIND at 1", w.now(0), 1);
        DUE.is("tide(1) to the top", w.tide(1), 2);
        DUE.is("held at 2", w.now(3), 0);
        DUE.is("tide(1) above the top", w.tide(1), STATE);
        DUE.is("may be UNDONE", w.count(3), 2);
        DUE.is("tide(0)", w.tide(0), 1);
        DUE.is("tide(0) to 0", w.tide(0), 0);
        DUE.is("nobody's then", w.now(3), 0);
        DUE.is("no cloth then", w.now(2), 0);
        DUE.is("may be UNDONE then", w.count(3), 4);
    }

    private static void undo() {
        WindFrontiers w = Told.strand("g3 2;o2 1 0;c1 0;");
        w.takes(0, 0, 0);
        w.leaves(1, 0);
        w.puts(2, 1, 1);
        w.puts(1, 0, 0);
        w.veers();
        w.tide(1);
        w.tide(0);
        DUE.is("undo() of OUT", w.undo(), 6);
        DUE.is("THE TIDE", w.now(1), 1);
        DUE.is("undo() of IN", w.undo(), 5);
        DUE.is("THE TIDE", w.now(1), 0);
        DUE.is("held again", w.now(3), 1);
        DUE.is("undo() of TURNED", w.undo(), 4);
        DUE.is("WIND", w.now(0), 0);
        DUE.is("undo() of PULLED", w.undo(), 3);
        DUE.is("cloth", w.now(2), (1 << 7) | 2);
        DUE.is("undo() of PUT", w.undo(), 2);
        DUE.is("cloth", w.now(2), 2);
        DUE.is("undo() of LEFT", w.undo(), 1);
        DUE.is("holder", w.cell(1, 0, 0), 2);
        DUE.is("undo() of TAKEN", w.undo(), 0);
        DUE.is("held", w.now(3), 2);
        DUE.is("undo() of nothing", w.undo(), STATE);
        DUE.is("undo() is not UNDONE", w.count(3), 0);
        tenAreKnown();
        refusedIsNotKnown();
    }

    private static void tenAreKnown() {
        WindFrontiers w = Told.strand("g5 4;");
        for (int i = 0; i < 13; i++) {
            w.takes(i % 5, i % 5, i / 5);
            DUE.is("known after " + (i + 1), w.count(3), Math.min(i + 1, 10));
        }
        for (int i = 12; i >= 3; i--) {
            DUE.is("undo() of the " + (i + 1) + ".", w.undo(), i - 3);
            DUE.is("held ahead of the " + (i + 1) + ".", w.now(3), (1 << i) - 1);
        }
        DUE.is("the older are lost", w.undo(), STATE);
        w.veers();
        DUE.is("one more may be UNDONE", w.count(3), 1);
    }

    private static void refusedIsNotKnown() {
        WindFrontiers w = Told.strand("o0 0 0;");
        w.takes(1, 0, 0);
        w.takes(7, 0, 0);
        w.leaves(1, 1);
        w.leaves(9, 9);
        w.puts(0, 0, 0);
        w.puts(0, 0, 7);
        w.tide(0);
        w.tide(5);
        w.saw(0, 0, 0, 0);
        w.keep(0);
        DUE.is("nothing to be UNDONE", w.count(3), 0);
        w.veers();
        w.saw(1, 1, 1, 1);
        w.mark(0, 0, 0);
        w.type('x');
        DUE.is("undo()", w.undo(), 0);
        DUE.is("SEEN stays", w.count(2), 2);
        DUE.is("THE TRACE stays", w.trace(), 1);
        DUE.is("THE TEXT stays", w.count(4), 1);
    }

    private static void now() {
        WindFrontiers w = Told.strand("g5 4;o0 4 3;o1 0 0;c4 3;c0 0;w1;");
        w.tide(1);
        DUE.is("now(0)", w.now(0), 1);
        DUE.is("now(1)", w.now(1), 1);
        DUE.is("now(2)", w.now(2), 1 << 19);
        DUE.is("now(3)", w.now(3), 1 << 19);
        DUE.is("now(4)", w.now(4), (1 << 19) | (1 << 18));
        DUE.is("now(5)", w.now(5), 2);
        DUE.is("now(6)", w.now(6), BAD);
        for (int far : FAR) {
            DUE.is("now(far)", w.now(far), BAD);
        }
    }

    private static void border() {
        WindFrontiers w = Told.strand("g3 3;o0 1 1;");
        DUE.is("BORDER about one", w.now(5), 4);
        w.takes(0, 1, 0);
        DUE.is("BORDER about two of one FAMILY", w.now(5), 5);
        w.leaves(1, 0);
        w.takes(1, 1, 0);
        DUE.is("BORDER about two of unlike FAMILIES", w.now(5), 6);
        w.tide(1);
        DUE.is("BORDER with water counts nothing", w.now(5), 3);
        WindFrontiers wide = Told.strand("g5 2;o0 4 0;o0 0 1;");
        DUE.is("a ROW's end isn't beside the next one's begin", wide.now(5), 4);
        WindFrontiers alone = Told.strand("g1 1;o0 0 0;");
        DUE.is("BORDER of one CELL", alone.now(5), 0);
    }

    private static void water() {
        WindFrontiers w = Told.strand("g3 4;o0 0 1;o0 1 1;o1 0 2;o1 1 3;o2 2 2;c0 3;");
        DUE.is("around all others", w.water(0, 0, 3), 1);
        DUE.is("through one of its own", w.water(1, 0, 3), 1);
        DUE.is("its first one too", w.water(2, 1, 3), 1);
        DUE.is("next to the water", w.water(4, 0, 0), 0);
        DUE.is("of others, next to all", w.water(3, 1, 3), 2);
        DUE.is("through its own", w.water(2, 2, 3), 0);
        w.tide(1);
        DUE.is("of others, next to the water", w.water(4, 0, 1), 1);
        DUE.is("under water", w.water(4, 0, 0), BAD);
        DUE.is("nobody's, next to the water", w.water(4, 2, 1), 0);
        DUE.is("water(5, 0, 3)", w.water(5, 0, 3), BAD);
        DUE.is("water(0, 3, 3)", w.water(0, 3, 3), BAD);
        DUE.is("water(0, 0, 4)", w.water(0, 0, 4), BAD);
        for (int far : FAR) {
            DUE.is("water(far, 0, 3)", w.water(far, 0, 3), BAD);
            DUE.is("water(0, far, 3)", w.water(0, far, 3), BAD);
            DUE.is("water(0, 0, far)", w.water(0, 0, far), BAD);
        }
        WindFrontiers narrow = Told.strand("g1 4;o0 0 1;o1 0 2;o2 0 3;");
        DUE.is("over three others", narrow.water(3, 0, 3), 3);
        DUE.is("over two others and its own", narrow.water(1, 0, 3), 2);
        WindFrontiers back = Told.strand("g5 4;o0 1 1;o0 1 2;o0 1 3;o0 0 0;o0 3 0;o0 3 1;o0 3 2;o0 2 0;o0 4 0;");
        DUE.is("no way but over one", back.water(1, 2, 1), 1);
        DUE.is("a way up, and down again", back.water(1, 4, 1), 1);
        back.leaves(4, 0);
        DUE.is("a way up, and down again, free", back.water(1, 2, 1), 0);
    }

    private static void help() {
        WindFrontiers w = Told.strand("g5 2;o0 2 0;o0 3 0;o0 4 1;c3 1;");
        DUE.is("helps most, and lowest", w.help(0, 0), 1);
        DUE.is("how much more", w.help(0, 1), 2);
        w.puts(1, 0, 1);
        DUE.is("nothing helps: the lowest", w.help(0, 0), 0);
        DUE.is("nothing more", w.help(0, 1), 0);
        DUE.is("a FAMILY without CELLS", w.help(4, 0), 0);
        w.veers();
        DUE.is("by 1", w.help(0, 0), 3);
        DUE.is("by 1, how much more", w.help(0, 1), 2);
        w.tide(1);
        DUE.is("DRY ones alone", w.help(0, 0), 9);
        DUE.is("DRY ones alone, how much more", w.help(0, 1), 1);
        DUE.is("nothing was changed", w.now(2), 1 << 8);
        w.tide(1);
        DUE.is("none is DRY", w.help(0, 0), NONE);
        DUE.is("none is DRY: how much", w.help(0, 1), NONE);
        WindFrontiers full = Told.strand("g1 2;c0 0;c0 1;");
        DUE.is("cloth everywhere", full.help(0, 0), NONE);
        DUE.is("cloth everywhere: how much", full.help(0, 1), NONE);
        DUE.is("help(5, 0)", full.help(5, 0), BAD);
        DUE.is("help(0, 2)", full.help(0, 2), BAD);
        for (int far : FAR) {
            DUE.is("help(far, 0)", full.help(far, 0), BAD);
            DUE.is("help(0, far)", full.help(0, far), BAD);
        }
    }

    private static void fraction(WindFrontiers w, int x, int y, int turning, int n, int upper, int lower) {
        String call = "odds(" + x + ", " + y + ", " + turning + ", " + n + ", ";
        DUE.is(call + "0)", w.odds(x, y, turning, n, 0), upper);
        DUE.is(call + "1)", w.odds(x, y, turning, n, 1), lower);
    }

    private static void odds() {
        WindFrontiers w = Told.strand("g5 2;c1 0;c3 0;c1 1;");
        fraction(w, 2, 0, 3, 6, 1, 1);
        fraction(w, 0, 0, 3, 0, 0, 1);
        fraction(w, 0, 0, 3, 1, 3, 10);
        fraction(w, 0, 0, 3, 2, 21, 50);
        fraction(w, 4, 1, 5, 6, 0, 1);
        fraction(w, 2, 1, 0, 6, 1, 1);
        fraction(w, 2, 1, 10, 5, 0, 1);
        fraction(w, 2, 1, 10, 6, 1, 1);
        fraction(w, 2, 1, 1, 6, 19721, 31250);
        w.veers();
        fraction(w, 2, 1, 3, 1, 3, 10);
        fraction(w, 0, 1, 3, 1, 7, 10);
        w.tide(1);
        fraction(w, 0, 0, 5, 3, 0, 1);
        DUE.is("odds(5, 0, 1, 1, 0)", w.odds(5, 0, 1, 1, 0), BAD);
        DUE.is("odds(0, 2, 1, 1, 0)", w.odds(0, 2, 1, 1, 0), BAD);
        DUE.is("odds(0, 0, 11, 1, 0)", w.odds(0, 0, 11, 1, 0), BAD);
        DUE.is("odds(0, 0, 1, 7, 0)", w.odds(0, 0, 1, 7, 0), BAD);
        DUE.is("odds(0, 0, 1, 1, 2)", w.odds(0, 0, 1, 1, 2), BAD);
        for (int far : FAR) {
            DUE.is("odds(far, 0, 1, 1, 0)", w.odds(far, 0, 1, 1, 0), BAD);
            DUE.is("odds(0, far, 1, 1, 0)", w.odds(0, far, 1, 1, 0), BAD);
            DUE.is("odds(0, 0, far, 1, 0)", w.odds(0, 0, far, 1, 0), BAD);
            DUE.is("odds(0, 0, 1, far, 0)", w.odds(0, 0, 1, far, 0), BAD);
            DUE.is("odds(0, 0, 1, 1, far)", w.odds(0, 0, 1, 1, far), BAD);
        }
    }

    private static void saw() {
        WindFrontiers w = Told.strand("g2 2;");
        DUE.is("saw(2, 0, 0, 0)", w.saw(2, 0, 0, 0), BAD);
        DUE.is("saw(0, 2, 0, 0)", w.saw(0, 2, 0, 0), BAD);
        DUE.is("saw(0, 0, 2, 0)", w.saw(0, 0, 2, 0), BAD);
        DUE.is("saw(0, 0, 0, 2)", w.saw(0, 0, 0, 2), BAD);
        w.tide(1);
        DUE.is("saw of a CELL under water", w.saw(0, 0, 0, 0), 1);
        for (int i = 2; i <= 6; i++) {
            DUE.is("saw() the same, the " + i + ".", w.saw(1, 1, 1, 1), i);
        }
        DUE.is("saw(), the 7.", w.saw(0, 0, 0, 0), FULL);
        for (int far : FAR) {
            DUE.is("saw(far, 0, 0, 0)", w.saw(far, 0, 0, 0), BAD);
            DUE.is("saw(0, far, 0, 0)", w.saw(0, far, 0, 0), BAD);
            DUE.is("saw(0, 0, far, 0)", w.saw(0, 0, far, 0), BAD);
            DUE.is("saw(0, 0, 0, far)", w.saw(0, 0, 0, far), BAD);
        }
        DUE.is("SEEN", w.count(2), 6);
    }

    private static void forget() {
        WindFrontiers w = Told.strand("g4 1;c0 0;");
        w.saw(0, 0, 0, 1);
        w.saw(0, 0, 1, 1);
        w.saw(0, 0, 1, 0);
        DUE.is("no way", w.moved(0), 0);
        DUE.is("forget()", w.forget(), 3);
        DUE.is("forget() again", w.forget(), 0);
        DUE.is("SEEN", w.count(2), 0);
        DUE.is("every way", w.moved(0), 3);
        DUE.is("saw()", w.saw(0, 0, 0, 0), 1);
    }

    private static void moved() {
        WindFrontiers w = Told.strand("g5 2;c1 0;c3 1;");
        DUE.is("no cloth was SEEN: ways", w.moved(0), 16);
        DUE.is("no cloth was SEEN: first", w.moved(1), 100);
        w.saw(4, 0, 0, 1);
        DUE.is("STILL by 0: ways", w.moved(0), 4);
        DUE.is("STILL by 0: first", w.moved(1), 102);
        w.saw(4, 1, 0, 0);
        DUE.is("not STILL by 0: ways", w.moved(0), 2);
        DUE.is("not STILL by 0: first", w.moved(1), 802);
        w.saw(3, 0, 1, 1);
        DUE.is("STILL by 1: ways", w.moved(0), 1);
        DUE.is("STILL by 1: first", w.moved(1), 803);
        w.saw(0, 0, 1, 0);
        DUE.is("not STILL by 1: ways", w.moved(0), 0);
        DUE.is("not STILL by 1: first", w.moved(1), NONE);
        DUE.is("nothing was changed", w.now(2), 2 | (1 << 8));
        DUE.is("moved(2)", w.moved(2), BAD);
        for (int far : FAR) {
            DUE.is("moved(far)", w.moved(far), BAD);
        }
        w.forget();
        w.tide(1);
        DUE.is("DRY ones alone: ways", w.moved(0), 4);
        DUE.is("DRY ones alone: first", w.moved(1), 805);
        w.saw(0, 0, 0, 1);
        DUE.is("none is STILL under water", w.moved(0), 0);
        WindFrontiers none = Told.strand("g2 1;c0 0;c1 0;");
        DUE.is("no CELL without cloth", none.moved(0), 0);
        DUE.is("no CELL without cloth: first", none.moved(1), NONE);
    }

    private static void mark() {
        WindFrontiers w = Told.strand("g5 4;o0 4 2;o0 0 0;");
        w.tide(1);
        int[] held = {2, 5, -2, 10, -1, 3};
        int[] corner = {0, 2, 0, 4, 0, 1};
        int[] far = {3, 5, -1, 10, -1, 4};
        for (int kind = 0; kind <= 5; kind++) {
            DUE.is("mark(" + kind + ", 4, 2)", w.mark(kind, 4, 2), held[kind]);
            DUE.is("mark(" + kind + ", 0, 0)", w.mark(kind, 0, 0), corner[kind]);
            DUE.is("mark(" + kind + ", 4, 3)", w.mark(kind, 4, 3), far[kind]);
        }
        WindFrontiers middle = Told.strand("g3 3;o2 1 1;o2 0 0;");
        DUE.is("CASTLE with four beside it", middle.mark(1, 1, 1), 5);
        DUE.is("POLAND of a HOLDER", middle.mark(4, 1, 1), 2);
        middle.tide(1);
        DUE.is("CASTLE with one under water", middle.mark(1, 1, 1), 5);
        DUE.is("mark(6, 0, 0)", middle.mark(6, 0, 0), NO);
        DUE.is("mark(0, 3, 0)", middle.mark(0, 3, 0), NO);
        DUE.is("mark(0, 0, 3)", middle.mark(0, 0, 3), NO);
        for (int wrong : FAR) {
            DUE.is("mark(far, 0, 0)", middle.mark(wrong, 0, 0), NO);
            DUE.is("mark(0, far, 0)", middle.mark(0, wrong, 0), NO);
            DUE.is("mark(0, 0, far)", middle.mark(0, 0, wrong), NO);
        }
        DUE.is("trace() after NO", middle.trace(), 11 + 10101 + 11);
    }

    private static void images() {
        WindFrontiers w = Told.strand("g3 2;o1 0 1;c1 1;w1;");
        for (int far : new int[] {2, -1, Integer.MIN_VALUE, Integer.MAX_VALUE}) {
            DUE.is("keep(" + far + ")", w.keep(far), BAD);
            DUE.is("back(" + far + ")", w.back(far), BAD);
        }
        w.tide(1);
        DUE.is("keep(1)", w.keep(1), 1);
        DUE.is("back(0), not kept", w.back(0), STATE);
        w.saw(0, 0, 0, 0);
        w.mark(0, 0, 0);
        w.type('g');
        w.undo();
        w.veers();
        w.leaves(0, 1);
        w.puts(1, 1, 0);
        DUE.is("keep(0)", w.keep(0), 0);
        DUE.is("back(1)", w.back(1), 1);
        DUE.is("WIND back", w.now(0), 1);
        DUE.is("THE TIDE back", w.now(1), 1);
        DUE.is("cloth back", w.now(2), 64);
        DUE.is("held back", w.family(1, 0), 32);
        DUE.is("UNDONE back", w.count(3), 1);
        DUE.is("SEEN stays", w.count(2), 1);
        DUE.is("THE TRACE stays", w.trace(), 1);
        DUE.is("THE TEXT stays", w.count(4), 1);
        DUE.is("undo() after back()", w.undo(), 0);
        DUE.is("THE TIDE then", w.now(1), 0);
        DUE.is("back(0)", w.back(0), 0);
        DUE.is("three to be UNDONE", w.count(3), 3);
        DUE.is("undo() of PULLED", w.undo(), 2);
        DUE.is("cloth then", w.now(2), 64);
        DUE.is("undo() of LEFT", w.undo(), 1);
        DUE.is("undo() of TURNED", w.undo(), 0);
        DUE.is("WIND then", w.now(0), 1);
        DUE.is("back(1) again", w.back(1), 1);
        DUE.is("undo() again", w.undo(), 0);
        DUE.is("keep(1) anew", w.keep(1), 0);
        DUE.is("back(1) anew", w.back(1), 0);
        DUE.is("nothing to be UNDONE", w.count(3), 0);
        imagesOfAll();
    }

    private static void imagesOfAll() {
        WindFrontiers w = Told.strand("g5 4;");
        for (int i = 0; i < 12; i++) {
            w.takes(0, i % 5, i / 5);
        }
        w.keep(0);
        for (int i = 0; i < 12; i++) {
            w.leaves(i % 5, i / 5);
        }
        w.back(0);
        DUE.is("held back", w.family(0, 0), 4095);
        for (int i = 9; i >= 0; i--) {
            DUE.is("undo() of an IMAGE's", w.undo(), i);
            DUE.is("held then", w.now(3), (1 << (i + 2)) - 1);
        }
    }

    private static void count() {
        WindFrontiers w = Told.strand("g4 1;");
        w.saw(0, 0, 0, 0);
        w.saw(0, 0, 0, 0);
        w.veers();
        w.veers();
        w.veers();
        Told.types(w, "abcde");
        int[] counts = {4, 1, 2, 3, 5};
        for (int what = 0; what < counts.length; what++) {
            DUE.is("count(" + what + ")", w.count(what), counts[what]);
        }
        DUE.is("count(5)", w.count(5), BAD);
        for (int far : FAR) {
            DUE.is("count(far)", w.count(far), BAD);
        }
    }

    private static void trace() {
        long[] bodies = {1, 11, 101, 1011, 10101, 100001};
        WindFrontiers w = new WindFrontiers();
        long sum = 0;
        for (int round = 0; round < 3; round++) {
            for (int kind = 0; kind <= 5; kind++) {
                w.mark(kind, 2, 2);
                sum += bodies[kind];
                DUE.is("trace() after mark(" + kind + ", 2, 2)", w.trace(), sum);
            }
            w.keep(0);
            w.back(0);
            w.strand();
        }
    }
}
