/** Each boundary case of what is done and asked on THE STRAND: one method for one sentence of the document. */
public final class EdgeTest {
    private static final int BAD = WindFrontiers.BAD;
    private static final int STATE = WindFrontiers.STATE;
    private static final int FULL = WindFrontiers.FULL;
    private static final int NONE = WindFrontiers.NONE;
    private static final int NO = WindFrontiers.NO;
    private static final int ALL = (1 << 20) - 1;
    private static final Due DUE = new Due("EdgeTest");

    public static void main(String[] args) {
        theTideAtBothEnds();
        dryFromTheTideOn();
        takenIsDryAndNobodys();
        leftIsHeld();
        putIsDryAndBare();
        pulledIsDryAndThere();
        turnedIsTheOtherOne();
        waterTakesItsRowAlone();
        outGivesNothingBack();
        tenAreKnown();
        undoneAndDoneTimeAndAgain();
        eachKindIsUndone();
        waterIsUndone();
        whatIsNotToBeUndone();
        stillOnEachSide();
        stillIsDry();
        stillByTwoCloths();
        shelterOfItsOwnCells();
        borderOfNobodyAndOfOne();
        borderOfAll();
        borderAtTheWater();
        losesByRows();
        waterNextToIt();
        waterOverOthers();
        waterByTheFewest();
        waterOfAllUnderWater();
        helpOfSeveralTheLowest();
        helpIsZeroAtLeast();
        helpWithoutCells();
        helpByWindAndTide();
        oddsOfNoHours();
        oddsOfNeverAndAlways();
        oddsInLeastTerms();
        oddsOfTheWindNow();
        sixAreSeen();
        seenTwiceAndAgainstItself();
        seenOfEachKind();
        movedToAnotherCell();
        movedWithoutClothOrPlace();
        movedByWhatWasSeen();
        movedOnTheStrandAsItIsNow();
        marksOfCorners();
        marksAtTheTide();
        marksOfHolders();
        tracesOfBodies();
        imagesOfNothing();
        imagesKeepNow();
        imagesKeepNothingElse();
        imagesAreApart();
        DUE.end();
    }

    // ---- THE TIDE, what is done

    private static void theTideAtBothEnds() {
        for (int rows = 1; rows <= 4; rows++) {
            WindFrontiers w = Told.strand("g2 " + rows + ";");
            String of = " of " + rows + " ROWS";
            DUE.is("THE TIDE at first" + of, w.now(1), 0);
            DUE.is("OUT at 0" + of, w.tide(0), STATE);
            for (int tide = 1; tide <= rows; tide++) {
                DUE.is("IN" + of, w.tide(1), tide);
            }
            DUE.is("IN at the most" + of, w.tide(1), STATE);
            DUE.is("THE TIDE at the most" + of, w.now(1), rows);
            for (int tide = rows - 1; tide >= 0; tide--) {
                DUE.is("OUT" + of, w.tide(0), tide);
            }
            DUE.is("OUT at 0 again" + of, w.tide(0), STATE);
            DUE.is("to be UNDONE" + of, w.count(3), 2 * rows);
        }
    }

    private static void dryFromTheTideOn() {
        WindFrontiers w = Told.strand("g2 4;");
        for (int tide = 0; tide <= 4; tide++) {
            for (int y = 0; y < 4; y++) {
                DUE.is("DRY at " + y + ", THE TIDE " + tide, w.cell(1, y, 2), y < tide ? 0 : 1);
            }
            w.tide(1);
        }
    }

    private static void takenIsDryAndNobodys() {
        WindFrontiers w = Told.strand("g2 3;o0 0 2;");
        DUE.is("its own", w.takes(0, 0, 2), STATE);
        DUE.is("another's", w.takes(1, 0, 2), STATE);
        w.tide(1);
        DUE.is("under water", w.takes(0, 1, 0), STATE);
        DUE.is("BAD is ahead of STATE", w.takes(5, 1, 0), BAD);
        DUE.is("BAD is ahead of STATE, held", w.takes(-1, 0, 2), BAD);
        DUE.is("the lowest DRY one", w.takes(0, 1, 1), 2);
        DUE.is("the first of a FAMILY", w.takes(4, 0, 1), 1);
        w.tide(0);
        DUE.is("DRY again", w.takes(0, 1, 0), 3);
        DUE.is("those that were TAKEN", w.count(3), 5);
    }

    private static void leftIsHeld() {
        WindFrontiers w = Told.strand("g2 2;o0 0 0;o4 1 1;");
        DUE.is("of FAMILY 0", w.leaves(0, 0), 0);
        DUE.is("of nobody", w.leaves(0, 0), STATE);
        DUE.is("of FAMILY 4", w.leaves(1, 1), 4);
        DUE.is("of nobody again", w.leaves(1, 1), STATE);
        DUE.is("none is held", w.now(3), 0);
        w.takes(2, 1, 0);
        w.tide(1);
        DUE.is("of one that the water took", w.leaves(1, 0), STATE);
        DUE.is("BAD", w.leaves(2, 0), BAD);
    }

    private static void putIsDryAndBare() {
        WindFrontiers w = Told.strand("g2 2;");
        DUE.is("the first", w.puts(1, 1, 1), 1);
        DUE.is("where there is cloth", w.puts(1, 1, 1), STATE);
        w.tide(1);
        DUE.is("under water", w.puts(0, 0, 1), STATE);
        DUE.is("BAD is ahead of STATE", w.puts(0, 0, 2), BAD);
        DUE.is("the lowest DRY one", w.puts(0, 1, 1), 2);
        w.tide(0);
        DUE.is("DRY again", w.puts(0, 0, 1), 3);
    }

    private static void pulledIsDryAndThere() {
        WindFrontiers w = Told.strand("g2 2;c0 0;c1 1;");
        DUE.is("where there is none", w.puts(1, 0, 0), STATE);
        DUE.is("the first", w.puts(1, 1, 0), 1);
        DUE.is("where there is none any more", w.puts(1, 1, 0), STATE);
        w.tide(1);
        DUE.is("under water", w.puts(0, 0, 0), STATE);
        w.tide(0);
        DUE.is("what the water took", w.puts(0, 0, 0), STATE);
        w.undo();
        w.undo();
        DUE.is("the last", w.puts(0, 0, 0), 0);
    }

    private static void turnedIsTheOtherOne() {
        WindFrontiers w = new WindFrontiers();
        for (int i = 1; i <= 30; i++) {
            DUE.is("veers(), the " + i + ".", w.veers(), i % 2);
            DUE.is("WIND then", w.now(0), i % 2);
        }
    }

    private static void waterTakesItsRowAlone() {
        WindFrontiers w = Told.strand("g5 4;o0 0 0;o1 4 0;o0 0 1;o1 4 1;o4 2 3;c4 0;c0 1;c4 3;");
        w.tide(1);
        DUE.is("held above ROW 0", w.now(3), (1 << 5) | (1 << 9) | (1 << 17));
        DUE.is("cloth above ROW 0", w.now(2), (1 << 5) | (1 << 19));
        w.tide(1);
        DUE.is("held above ROW 1", w.now(3), 1 << 17);
        DUE.is("cloth above ROW 1", w.now(2), 1 << 19);
        w.tide(1);
        DUE.is("held in ROW 3", w.family(4, 0), 1 << 17);
        w.tide(1);
        DUE.is("held under water", w.now(3), 0);
        DUE.is("cloth under water", w.now(2), 0);
    }

    private static void outGivesNothingBack() {
        WindFrontiers w = Told.strand("g2 2;o0 0 0;c1 0;");
        w.tide(1);
        w.tide(0);
        DUE.is("held", w.now(3), 0);
        DUE.is("cloth", w.now(2), 0);
        DUE.is("holder", w.cell(0, 0, 0), NONE);
        DUE.is("DRY", w.cell(0, 0, 2), 1);
    }

    private static void tenAreKnown() {
        WindFrontiers w = new WindFrontiers();
        DUE.is("none is known at first", w.undo(), STATE);
        for (int i = 1; i <= 12; i++) {
            w.veers();
            DUE.is("known after " + i, w.count(3), Math.min(i, 10));
        }
        for (int i = 9; i >= 0; i--) {
            DUE.is("undo(): more may be", w.undo(), i);
        }
        DUE.is("older ones are lost", w.undo(), STATE);
        DUE.is("WIND ahead of the third", w.now(0), 0);
        w.veers();
        for (int i = 0; i < 9; i++) {
            w.veers();
        }
        DUE.is("ten are known, none is lost", w.count(3), 10);
        w.undo();
        DUE.is("nine are known", w.count(3), 9);
    }

    /** Takes the CELLS of 5 by 4 by turns, so that what is held tells how far all is back. */
    private static void undoneAndDoneTimeAndAgain() {
        WindFrontiers w = Told.strand("g5 4;");
        int held = 0;
        int known = 0;
        for (int round = 0; round < 6; round++) {
            for (int i = 0; i < 5; i++) {
                w.takes(round % 5, held % 5, held / 5);
                held++;
                known = Math.min(known + 1, 10);
                DUE.is("held", w.now(3), (1 << held) - 1);
                DUE.is("known", w.count(3), known);
            }
            for (int i = 0; i < 2; i++) {
                held--;
                known--;
                DUE.is("undo(): more may be", w.undo(), known);
                DUE.is("held ahead of it", w.now(3), (1 << held) - 1);
            }
        }
        for (int i = 0; i < 8; i++) {
            w.undo();
        }
        DUE.is("held ahead of the oldest known", w.now(3), (1 << 10) - 1);
        DUE.is("no older one", w.undo(), STATE);
        DUE.is("held still", w.now(3), (1 << 10) - 1);
    }

    private static void eachKindIsUndone() {
        String text = "g2 2;o3 0 0;c0 1;w1;";
        WindFrontiers w = Told.strand(text);
        w.takes(0, 1, 1);
        undone(w, "TAKEN");
        w.leaves(0, 0);
        undone(w, "LEFT");
        w.puts(1, 1, 1);
        undone(w, "PUT");
        w.puts(0, 1, 0);
        undone(w, "PULLED");
        w.veers();
        undone(w, "TURNED");
        w.tide(1);
        undone(w, "IN");
        w.tide(1);
        w.tide(0);
        DUE.is("undo() of OUT", w.undo(), 1);
        DUE.is("THE TIDE ahead of OUT", w.now(1), 1);
        undone(w, "IN behind OUT");
    }

    private static void undone(WindFrontiers w, String what) {
        DUE.is("undo() of " + what, w.undo(), 0);
        DUE.is("WIND ahead of " + what, w.now(0), 1);
        DUE.is("THE TIDE ahead of " + what, w.now(1), 0);
        DUE.is("cloth ahead of " + what, w.now(2), 32);
        DUE.is("held ahead of " + what, w.family(3, 0), 1);
        DUE.is("held in all ahead of " + what, w.now(3), 1);
    }

    private static void waterIsUndone() {
        WindFrontiers w = Told.strand("g5 4;o0 0 0;o1 1 1;o2 2 2;o4 3 3;c0 0;c1 1;c2 2;c4 3;");
        for (int i = 0; i < 4; i++) {
            w.tide(1);
        }
        int[] held = {0, 1 << 18, (1 << 18) | (1 << 12), (1 << 18) | (1 << 12) | 64, (1 << 18) | (1 << 12) | 65};
        int[] cloth = {0, 1 << 19, (1 << 19) | (1 << 12), (1 << 19) | (1 << 12) | 64, (1 << 19) | (1 << 12) | 65};
        for (int back = 1; back <= 4; back++) {
            DUE.is("undo() of IN", w.undo(), 4 - back);
            DUE.is("held again", w.now(3), held[back]);
            DUE.is("cloth again", w.now(2), cloth[back]);
        }
        DUE.is("of FAMILY 4", w.family(4, 0), 1 << 18);
    }

    private static void whatIsNotToBeUndone() {
        WindFrontiers w = Told.strand("g2 2;o0 0 0;c0 0;");
        w.type('w');
        w.clear();
        w.saw(0, 0, 0, 0);
        w.forget();
        w.keep(0);
        w.back(0);
        w.mark(4, 0, 0);
        w.help(0, 0);
        w.moved(0);
        w.water(0, 1, 1);
        DUE.is("none to be UNDONE", w.count(3), 0);
        DUE.is("undo()", w.undo(), STATE);
        w.veers();
        w.undo();
        DUE.is("undo() isn't one to be UNDONE", w.undo(), STATE);
    }

    // ---- STILL, SHELTER, BORDER, LOSES

    private static void stillOnEachSide() {
        for (int wide = 1; wide <= 5; wide++) {
            for (int on = 0; on < wide; on++) {
                for (int y = 0; y < 4; y++) {
                    stillBeside(wide, on, y);
                }
            }
        }
    }

    private static void stillBeside(int wide, int on, int row) {
        WindFrontiers w = Told.strand("g" + wide + " 4;c" + on + " " + row + ";");
        for (int x = 0; x < wide; x++) {
            for (int y = 0; y < 4; y++) {
                String place = wide + " wide, cloth on (" + on + ", " + row + "), STILL at (" + x + ", " + y + ")";
                boolean byLeft = y == row && (x - 1 == on || x - 2 == on);
                boolean byRight = y == row && (x == on || x + 1 == on);
                DUE.is(place + " by 0", w.cell(x, y, 3), byLeft ? 1 : 0);
                DUE.is(place + " by 1", w.cell(x, y, 4), byRight ? 1 : 0);
            }
        }
    }

    private static void stillIsDry() {
        WindFrontiers w = Told.strand("g3 2;c0 0;c1 0;c2 0;c0 1;c1 1;c2 1;");
        DUE.is("STILL by 0", w.now(4), 6 | (6 << 5));
        w.tide(1);
        DUE.is("STILL by 0, DRY", w.now(4), 6 << 5);
        w.veers();
        DUE.is("STILL by 1, DRY", w.now(4), 7 << 5);
        DUE.is("STILL by 1 under water", w.cell(0, 0, 4), 0);
        DUE.is("STILL by 0 under water", w.cell(1, 0, 3), 0);
        w.tide(1);
        DUE.is("none is DRY", w.now(4), 0);
        w.tide(0);
        DUE.is("cloth is gone", w.now(4), 0);
    }

    private static void stillByTwoCloths() {
        WindFrontiers w = Told.strand("g5 1;c0 0;c1 0;");
        DUE.is("by 0", w.now(4), 2 | 4 | 8);
        w.veers();
        DUE.is("by 1", w.now(4), 1 | 2);
        w.puts(4, 0, 1);
        DUE.is("by 1, with one more at the end", w.now(4), 1 | 2 | 8 | 16);
        w.veers();
        DUE.is("by 0, the one at the end helps none", w.now(4), 2 | 4 | 8);
    }

    private static void shelterOfItsOwnCells() {
        WindFrontiers w = Told.strand("g5 1;o0 1 0;o0 0 0;o1 2 0;o4 3 0;c0 0;");
        int[] byLeft = {1, 1, 0, 0, 0};
        int[] byRight = {1, 0, 0, 0, 0};
        for (int f = 0; f <= 4; f++) {
            DUE.is("SHELTER of " + f + " by 0", w.family(f, 1), byLeft[f]);
        }
        w.veers();
        for (int f = 0; f <= 4; f++) {
            DUE.is("SHELTER of " + f + " by 1", w.family(f, 1), byRight[f]);
        }
        w.tide(1);
        DUE.is("SHELTER under water", w.family(0, 1), 0);
    }

    private static void borderOfNobodyAndOfOne() {
        WindFrontiers w = Told.strand("g2 2;");
        DUE.is("nobody's", w.now(5), 0);
        w.takes(1, 0, 0);
        DUE.is("one and nobody", w.now(5), 2);
        w.takes(1, 1, 0);
        DUE.is("two and nobody", w.now(5), 2);
        w.takes(1, 1, 1);
        DUE.is("three and nobody", w.now(5), 2);
        w.takes(1, 0, 1);
        DUE.is("all one FAMILY's", w.now(5), 0);
        DUE.is("a strand of one CELL", Told.strand("g1 1;o0 0 0;").now(5), 0);
    }

    private static void borderOfAll() {
        WindFrontiers w = Told.strand("g5 4;");
        for (int number = 0; number < 20; number++) {
            if ((number % 5 + number / 5) % 2 == 0) {
                w.takes(0, number % 5, number / 5);
            }
        }
        DUE.is("every two of 5 by 4: one and nobody", w.now(5), 31);
        for (int number = 0; number < 20; number++) {
            if ((number % 5 + number / 5) % 2 == 1) {
                w.takes(4, number % 5, number / 5);
            }
        }
        DUE.is("every two of 5 by 4: unlike FAMILIES", w.now(5), 31);
        w.tide(1);
        DUE.is("every two of 5 by 3", w.now(5), 22);
        w.tide(1);
        DUE.is("every two of 5 by 2", w.now(5), 13);
        w.tide(1);
        DUE.is("every two of 5 by 1", w.now(5), 4);
        w.tide(1);
        DUE.is("none is DRY", w.now(5), 0);
    }

    private static void borderAtTheWater() {
        WindFrontiers w = Told.strand("g1 3;o0 0 1;");
        DUE.is("below and above", w.now(5), 2);
        w.tide(1);
        DUE.is("above alone", w.now(5), 1);
        WindFrontiers rows = Told.strand("g5 2;o0 4 0;o1 0 1;");
        DUE.is("a ROW's end isn't beside the next ROW's begin", rows.now(5), 4);
    }

    private static void losesByRows() {
        for (int y = 0; y < 4; y++) {
            WindFrontiers w = Told.strand("g2 4;o2 1 " + y + ";o2 0 3;");
            for (int tide = 0; tide <= y; tide++) {
                DUE.is("LOSES, its first at " + y + ", THE TIDE " + tide, w.family(2, 2), y + 1 - tide);
                w.tide(1);
            }
            DUE.is("LOSES the next, its first was at " + y, w.family(2, 2), y == 3 ? NONE : 3 - y);
        }
        WindFrontiers none = Told.strand("g2 4;o2 1 1;");
        DUE.is("LOSES of one without CELLS", none.family(1, 2), NONE);
        none.leaves(1, 1);
        DUE.is("LOSES of one that left", none.family(2, 2), NONE);
        none.undo();
        DUE.is("LOSES of one that is back", none.family(2, 2), 2);
    }

    // ---- WATER, HELP, ODDS

    private static void waterNextToIt() {
        WindFrontiers w = Told.strand("g3 2;o1 1 0;");
        DUE.is("nobody's, next to the water", w.water(0, 0, 0), 0);
        DUE.is("its own, next to the water", w.water(1, 1, 0), 0);
        DUE.is("another's, next to the water: the first one, too", w.water(0, 1, 0), 1);
        DUE.is("one behind another's goes round it", w.water(0, 1, 1), 0);
        w.tide(1);
        DUE.is("y is THE TIDE", w.water(0, 1, 1), 0);
        DUE.is("under water", w.water(0, 1, 0), BAD);
    }

    private static void waterOverOthers() {
        WindFrontiers w = Told.strand("g1 4;o0 0 0;o1 0 1;o2 0 2;o3 0 3;");
        int[] over = {3, 3, 3, 3, 4};
        for (int f = 0; f <= 4; f++) {
            DUE.is("WATER for " + f + " over all", w.water(f, 0, 3), over[f]);
        }
        DUE.is("the last one counts, too", w.water(1, 0, 1), 1);
        w.leaves(0, 1);
        DUE.is("nobody's does not count", w.water(4, 0, 3), 3);
        w.tide(1);
        DUE.is("one under water does not count", w.water(4, 0, 3), 2);
        w.puts(0, 2, 1);
        DUE.is("cloth does not matter", w.water(4, 0, 3), 2);
    }

    private static void waterByTheFewest() {
        WindFrontiers wall = Told.strand("g5 4;o0 0 1;o0 1 1;o0 2 1;o0 3 1;o0 1 3;");
        DUE.is("round the wall's end", wall.water(1, 0, 3), 0);
        wall.takes(0, 4, 1);
        DUE.is("over the wall", wall.water(1, 0, 3), 1);
        wall.takes(0, 1, 2);
        wall.takes(0, 0, 2);
        DUE.is("no fewer by a way on which others are few but far", wall.water(1, 0, 3), 2);
        WindFrontiers left = Told.strand("g5 2;o0 0 0;o0 1 0;o0 2 0;o0 3 0;o0 1 1;");
        DUE.is("no way to the left over a ROW's begin", left.water(1, 0, 1), 1);
        WindFrontiers right = Told.strand("g5 3;o0 4 0;o0 3 1;o0 4 2;");
        DUE.is("no way to the right over a ROW's end", right.water(1, 4, 1), 1);
        WindFrontiers winding = Told.strand("g5 4;o0 0 0;o0 1 0;o0 2 0;o0 3 0;o0 1 1;o0 1 2;o0 3 1;o0 3 2;o0 3 3;");
        DUE.is("up and down again till a wall", winding.water(2, 0, 1), 1);
        winding.leaves(3, 3);
        DUE.is("up and down and up and down again", winding.water(2, 0, 1), 0);
    }

    private static void waterOfAllUnderWater() {
        WindFrontiers w = Told.strand("g2 1;o0 0 0;");
        w.tide(1);
        DUE.is("none is DRY", w.water(0, 0, 0), BAD);
        DUE.is("none is DRY, of none", w.water(4, 1, 0), BAD);
        w.tide(0);
        DUE.is("DRY again, and nobody's", w.water(4, 0, 0), 0);
    }

    private static void helpOfSeveralTheLowest() {
        WindFrontiers w = Told.strand("g5 4;o0 4 3;");
        DUE.is("of two the lowest", w.help(0, 0), 17);
        DUE.is("by one more", w.help(0, 1), 1);
        w.puts(2, 3, 1);
        DUE.is("STILL already: the lowest of all", w.help(0, 0), 0);
        w.puts(2, 3, 0);
        w.puts(1, 3, 1);
        DUE.is("the next one has cloth that does not help", w.help(0, 0), 17);
        w.takes(0, 3, 0);
        DUE.is("of four the lowest", w.help(0, 0), 1);
    }

    private static void helpIsZeroAtLeast() {
        WindFrontiers w = new WindFrontiers();
        DUE.is("of one without CELLS", w.help(2, 0), 0);
        DUE.is("of one without CELLS: no more", w.help(2, 1), 0);
        w.takes(2, 0, 0);
        DUE.is("nothing helps the first of a ROW by 0", w.help(2, 0), 0);
        DUE.is("nothing helps the first of a ROW by 0: no more", w.help(2, 1), 0);
        w.puts(0, 0, 1);
        DUE.is("the lowest without cloth", w.help(2, 0), 1);
    }

    private static void helpWithoutCells() {
        WindFrontiers w = Told.strand("g2 1;c0 0;o0 1 0;");
        DUE.is("the last one without cloth", w.help(0, 0), 1);
        w.puts(1, 0, 1);
        DUE.is("all have cloth", w.help(0, 0), NONE);
        DUE.is("all have cloth: how much more", w.help(0, 1), NONE);
        w.tide(1);
        DUE.is("none is DRY", w.help(0, 0), NONE);
        DUE.is("none is DRY: how much more", w.help(0, 1), NONE);
        DUE.is("BAD is told ahead of NONE", w.help(0, 2), BAD);
        DUE.is("BAD is told ahead of NONE, too", w.help(5, 0), BAD);
    }

    private static void helpByWindAndTide() {
        WindFrontiers w = Told.strand("g5 2;o3 0 0;o3 1 0;o3 3 0;o3 4 0;o3 4 1;");
        DUE.is("by 0", w.help(3, 0), 2);
        DUE.is("by 0, two more", w.help(3, 1), 2);
        w.veers();
        DUE.is("by 1", w.help(3, 0), 1);
        DUE.is("by 1, two more", w.help(3, 1), 2);
        w.tide(1);
        DUE.is("by 1, above the water", w.help(3, 0), 9);
        DUE.is("by 1, above the water, one more", w.help(3, 1), 1);
        DUE.is("nothing was PUT", w.now(2), 0);
    }

    private static void odds(WindFrontiers w, int x, int turning, int n, int upper, int lower) {
        String call = "odds(" + x + ", 0, " + turning + ", " + n + "): ";
        DUE.is(call + "upper", w.odds(x, 0, turning, n, 0), upper);
        DUE.is(call + "lower", w.odds(x, 0, turning, n, 1), lower);
    }

    private static void oddsOfNoHours() {
        WindFrontiers w = Told.strand("g3 1;c0 0;");
        for (int turning = 0; turning <= 10; turning++) {
            odds(w, 1, turning, 0, 1, 1);
            odds(w, 0, turning, 0, 0, 1);
        }
        w.veers();
        odds(w, 1, 10, 0, 0, 1);
        odds(w, 0, 10, 0, 1, 1);
    }

    private static void oddsOfNeverAndAlways() {
        WindFrontiers w = Told.strand("g4 1;c0 0;c1 0;c2 0;");
        for (int n = 0; n <= 6; n++) {
            odds(w, 1, 0, n, 1, 1);
            odds(w, 3, 0, n, 1, 1);
            odds(w, 3, 10, n, n % 2 == 0 ? 1 : 0, 1);
            odds(w, 0, 10, n, n % 2, 1);
            odds(w, 1, 7, n, 1, 1);
            odds(Told.strand("g4 1;"), 3, 7, n, 0, 1);
        }
    }

    private static void oddsInLeastTerms() {
        WindFrontiers w = Told.strand("g4 1;c1 0;");
        odds(w, 2, 1, 1, 9, 10);
        odds(w, 2, 2, 1, 4, 5);
        odds(w, 2, 5, 1, 1, 2);
        for (int n = 1; n <= 6; n++) {
            odds(w, 2, 5, n, 1, 2);
            odds(w, 0, 5, n, 1, 2);
        }
        odds(w, 2, 5, 0, 1, 1);
        odds(w, 2, 1, 2, 41, 50);
        odds(w, 2, 9, 2, 41, 50);
        odds(w, 2, 9, 1, 1, 10);
        odds(w, 2, 4, 6, 7813, 15625);
        odds(w, 0, 4, 6, 7812, 15625);
        oddsOfEachTurning(w);
    }

    private static void oddsOfEachTurning(WindFrontiers w) {
        int[] upperOf3 = {1, 189, 76, 133, 63, 1, 62, 117, 49, 61, 0};
        int[] lowerOf3 = {1, 250, 125, 250, 125, 2, 125, 250, 125, 250, 1};
        int[] upperOf6 = {1, 19721, 8177, 15689, 7813, 1, 7813, 15689, 8177, 19721, 1};
        int[] lowerOf6 = {1, 31250, 15625, 31250, 15625, 2, 15625, 31250, 15625, 31250, 1};
        for (int turning = 0; turning <= 10; turning++) {
            odds(w, 2, turning, 3, upperOf3[turning], lowerOf3[turning]);
            odds(w, 0, turning, 3, lowerOf3[turning] - upperOf3[turning], lowerOf3[turning]);
            odds(w, 2, turning, 6, upperOf6[turning], lowerOf6[turning]);
            odds(w, 0, turning, 6, lowerOf6[turning] - upperOf6[turning], lowerOf6[turning]);
        }
    }

    private static void oddsOfTheWindNow() {
        WindFrontiers w = Told.strand("g4 2;c1 0;w1;");
        odds(w, 0, 3, 1, 7, 10);
        odds(w, 2, 3, 1, 3, 10);
        w.veers();
        odds(w, 0, 3, 1, 3, 10);
        odds(w, 2, 3, 1, 7, 10);
        DUE.is("WIND stays", w.now(0), 0);
        w.tide(1);
        odds(w, 2, 3, 1, 0, 1);
    }

    // ---- SEEN, MOVED

    private static void sixAreSeen() {
        WindFrontiers w = new WindFrontiers();
        for (int round = 0; round < 3; round++) {
            for (int i = 1; i <= 6; i++) {
                DUE.is("saw(), the " + i + ".", w.saw(i % 3, i / 3, i % 2, 0), i);
            }
            DUE.is("saw(), the 7.", w.saw(0, 0, 0, 0), FULL);
            DUE.is("BAD is ahead of FULL", w.saw(3, 0, 0, 0), BAD);
            DUE.is("SEEN", w.count(2), 6);
            DUE.is("forget()", w.forget(), 6);
            DUE.is("forget() again", w.forget(), 0);
            DUE.is("nothing SEEN", w.count(2), 0);
        }
    }

    private static void seenTwiceAndAgainstItself() {
        WindFrontiers w = Told.strand("g3 1;c0 0;");
        DUE.is("once", w.saw(2, 0, 0, 1), 1);
        DUE.is("ways", w.moved(0), 1);
        DUE.is("twice", w.saw(2, 0, 0, 1), 2);
        DUE.is("ways of the same", w.moved(0), 1);
        DUE.is("against itself", w.saw(2, 0, 0, 0), 3);
        DUE.is("no way", w.moved(0), 0);
        DUE.is("no first", w.moved(1), NONE);
        w.forget();
        DUE.is("all ways", w.moved(0), 2);
    }

    private static void seenOfEachKind() {
        seenTwiceAndAnother(0, 1, 4, 2, 2, 3, 2);
        seenTwiceAndAnother(0, 0, 4, 2, 1, 2, 4);
        seenTwiceAndAnother(1, 1, 2, 2, 2, 3, 3);
        seenTwiceAndAnother(1, 0, 2, 2, 1, 1, 4);
    }

    /** The cloth on 0 of five may have moved to 1 .. 4; the other one leaves but one of these ways. */
    private static void seenTwiceAndAnother(int wind, int is, int x, int ways, int first, int other, int to) {
        WindFrontiers w = Told.strand("g5 1;c0 0;");
        String call = "saw(" + x + ", 0, " + wind + ", " + is + ") ";
        for (int times = 1; times <= 3; times++) {
            DUE.is(call + times + " times", w.saw(x, 0, wind, is), times);
            DUE.is(call + times + " times: ways", w.moved(0), ways);
            DUE.is(call + times + " times: the first", w.moved(1), first);
        }
        DUE.is(call + "and of another", w.saw(other, 0, wind, is), 4);
        DUE.is(call + "and of another: ways", w.moved(0), 1);
        DUE.is(call + "and of another: the first", w.moved(1), to);
    }

    private static void movedToAnotherCell() {
        WindFrontiers w = Told.strand("g2 1;c0 0;");
        DUE.is("one way, none to where it is", w.moved(0), 1);
        DUE.is("from 0 to 1", w.moved(1), 1);
        WindFrontiers last = Told.strand("g5 4;c4 3;");
        DUE.is("to all others", last.moved(0), 19);
        DUE.is("from 19 to 0", last.moved(1), 1900);
        last.puts(0, 0, 1);
        DUE.is("two that move", last.moved(0), 36);
        DUE.is("from 0 to 1, the first", last.moved(1), 1);
        WindFrontiers before = Told.strand("g5 4;c0 0;");
        before.saw(4, 3, 1, 1);
        DUE.is("from 0 to 19 alone", before.moved(0), 1);
        DUE.is("from 0 to 19", before.moved(1), 19);
    }

    private static void movedWithoutClothOrPlace() {
        WindFrontiers w = Told.strand("g1 1;");
        DUE.is("no cloth", w.moved(0), 0);
        DUE.is("no cloth: the first", w.moved(1), NONE);
        w.puts(0, 0, 1);
        DUE.is("no other CELL", w.moved(0), 0);
        DUE.is("no other CELL: the first", w.moved(1), NONE);
        w.tide(1);
        DUE.is("none is DRY", w.moved(0), 0);
        WindFrontiers all = Told.strand("g5 4;");
        for (int number = 0; number < 20; number++) {
            all.puts(number % 5, number / 5, 1);
        }
        DUE.is("cloth everywhere", all.now(2), ALL);
        DUE.is("cloth everywhere: ways", all.moved(0), 0);
        all.puts(2, 2, 0);
        DUE.is("all but one", all.moved(0), 19);
        DUE.is("all but one: the first", all.moved(1), 12);
    }

    private static void movedByWhatWasSeen() {
        WindFrontiers w = Told.strand("g4 1;c1 0;");
        w.saw(2, 0, 0, 1);
        DUE.is("STILL at 2 by 0", w.moved(1), 100);
        DUE.is("STILL at 2 by 0: ways", w.moved(0), 1);
        w.forget();
        w.saw(3, 0, 0, 0);
        DUE.is("not STILL at 3 by 0: ways", w.moved(0), 2);
        DUE.is("not STILL at 3 by 0: the first", w.moved(1), 100);
        w.saw(3, 0, 1, 1);
        DUE.is("STILL at 3 by 1, too: ways", w.moved(0), 1);
        DUE.is("STILL at 3 by 1, too: the first", w.moved(1), 103);
        w.forget();
        w.saw(1, 0, 1, 0);
        DUE.is("not STILL at 1 by 1: ways", w.moved(0), 2);
        DUE.is("not STILL at 1 by 1: the first", w.moved(1), 100);
        w.saw(0, 0, 0, 1);
        DUE.is("the first of a ROW is never STILL by 0", w.moved(0), 0);
    }

    private static void movedOnTheStrandAsItIsNow() {
        WindFrontiers w = Told.strand("g3 2;c0 0;c0 1;");
        w.saw(2, 1, 0, 1);
        DUE.is("ahead of IN: ways", w.moved(0), 5);
        w.tide(1);
        DUE.is("DRY ones alone: ways", w.moved(0), 1);
        DUE.is("DRY ones alone: the first", w.moved(1), 506);
        w.saw(2, 0, 0, 0);
        DUE.is("one under water isn't STILL", w.moved(0), 1);
        w.saw(2, 0, 0, 1);
        DUE.is("one under water can't be STILL", w.moved(0), 0);
        DUE.is("SEEN is not UNDONE", w.undo(), 0);
        DUE.is("SEEN then", w.count(2), 3);
        DUE.is("nothing was changed", w.now(2), 33);
    }

    // ---- KINDS, IMAGES

    private static void marksOfCorners() {
        WindFrontiers w = Told.strand("g5 4;");
        DUE.is("CASTLE at the lower left", w.mark(1, 0, 0), 2);
        DUE.is("CASTLE at the lower right", w.mark(1, 4, 0), 2);
        DUE.is("CASTLE at the upper left", w.mark(1, 0, 3), 5);
        DUE.is("CASTLE at the upper right", w.mark(1, 4, 3), 5);
        DUE.is("CASTLE at the lower edge", w.mark(1, 2, 0), 3);
        DUE.is("CASTLE at the right edge", w.mark(1, 4, 2), 5);
        DUE.is("CASTLE inside", w.mark(1, 2, 2), 6);
        DUE.is("CORRIDOR at the right edge, below 0", w.mark(2, 4, 0), -4);
        DUE.is("EMPIRE at the upper right", w.mark(3, 4, 3), 10);
        WindFrontiers one = Told.strand("g1 1;");
        DUE.is("CASTLE of one CELL", one.mark(1, 0, 0), 0);
        DUE.is("EMPIRE of one CELL", one.mark(3, 0, 0), 0);
        WindFrontiers narrow = Told.strand("g3 2;");
        DUE.is("CASTLE at a narrow one's right edge", narrow.mark(1, 2, 1), 3);
    }

    private static void marksAtTheTide() {
        WindFrontiers w = Told.strand("g3 3;");
        for (int tide = 0; tide <= 3; tide++) {
            DUE.is("SALIENT", w.mark(5, 1, 2), 2 + tide);
            DUE.is("SALIENT of the lowest", w.mark(5, 1, 0), tide);
            DUE.is("CASTLE, under water or not", w.mark(1, 1, 1), 5);
            DUE.is("CELL, under water or not", w.mark(0, 1, 1), 1);
            w.tide(1);
        }
    }

    private static void marksOfHolders() {
        WindFrontiers w = Told.strand("g5 4;");
        DUE.is("POLAND of nobody", w.mark(4, 4, 3), -1);
        for (int number = 0; number < 20; number++) {
            w.takes(0, number % 5, number / 5);
            DUE.is("POLAND of a HOLDER", w.mark(4, 0, 0), number + 1);
        }
        DUE.is("POLAND at the upper right", w.mark(4, 4, 3), 19);
        w.tide(1);
        DUE.is("POLAND under water", w.mark(4, 1, 0), -1);
        DUE.is("POLAND above it", w.mark(4, 1, 1), 15);
    }

    private static void tracesOfBodies() {
        WindFrontiers w = new WindFrontiers();
        DUE.is("THE TRACE at first", w.trace(), 0);
        DUE.is("no such KIND", w.mark(6, 0, 0), NO);
        DUE.is("no such KIND, below", w.mark(-1, 0, 0), NO);
        DUE.is("no such CELL", w.mark(5, 3, 0), NO);
        DUE.is("no body was asked", w.trace(), 0);
        long[] bodies = {1, 11, 101, 1011, 10101, 100001};
        for (int kind = 0; kind <= 5; kind++) {
            long had = w.trace();
            w.mark(kind, 0, 0);
            DUE.is("bodies of KIND " + kind, w.trace() - had, bodies[kind]);
        }
        long had = w.trace();
        for (int i = 0; i < 400; i++) {
            w.mark(5, 2, 2);
        }
        DUE.is("bodies of 400", w.trace() - had, 40000400L);
    }

    private static void imagesOfNothing() {
        WindFrontiers w = new WindFrontiers();
        DUE.is("0 was not kept", w.back(0), STATE);
        DUE.is("1 was not kept", w.back(1), STATE);
        DUE.is("there is no IMAGE 2", w.back(2), BAD);
        DUE.is("there is no IMAGE 2 to keep", w.keep(2), BAD);
        DUE.is("there is no IMAGE -1 to keep", w.keep(-1), BAD);
        DUE.is("keep(0)", w.keep(0), 0);
        DUE.is("1 was not kept yet", w.back(1), STATE);
        DUE.is("back(0)", w.back(0), 0);
        DUE.is("back(0) again", w.back(0), 0);
    }

    private static void imagesKeepNow() {
        WindFrontiers w = Told.strand("g2 3;o0 0 2;c1 2;w1;");
        w.tide(1);
        w.takes(4, 1, 1);
        w.puts(0, 1, 1);
        DUE.is("keep(0): THE TIDE", w.keep(0), 1);
        w.tide(1);
        w.tide(1);
        w.veers();
        for (int i = 0; i < 12; i++) {
            w.veers();
        }
        DUE.is("keep(1): THE TIDE", w.keep(1), 3);
        DUE.is("back(0): THE TIDE", w.back(0), 1);
        DUE.is("WIND", w.now(0), 1);
        DUE.is("THE TIDE", w.now(1), 1);
        DUE.is("cloth", w.now(2), 32 | (1 << 11));
        DUE.is("held by 4", w.family(4, 0), 64);
        DUE.is("held by 0", w.family(0, 0), 1 << 10);
        DUE.is("what may be UNDONE", w.count(3), 3);
        DUE.is("undo() of PUT", w.undo(), 2);
        DUE.is("undo() of TAKEN", w.undo(), 1);
        DUE.is("undo() of IN", w.undo(), 0);
        DUE.is("THE TIDE then", w.now(1), 0);
        DUE.is("nothing older", w.undo(), STATE);
        DUE.is("back(1): THE TIDE", w.back(1), 3);
        DUE.is("what may be UNDONE", w.count(3), 10);
        DUE.is("undo() of TURNED", w.undo(), 9);
    }

    private static void imagesKeepNothingElse() {
        WindFrontiers w = Told.strand("g4 1;c1 0;");
        w.keep(0);
        w.saw(3, 0, 1, 1);
        w.mark(0, 0, 0);
        Told.types(w, "w1");
        w.veers();
        w.back(0);
        DUE.is("SEEN stays", w.count(2), 1);
        DUE.is("what was SEEN stays", w.moved(1), 103);
        DUE.is("THE TRACE stays", w.trace(), 1);
        DUE.is("THE TEXT stays", w.count(4), 2);
        Told.types(w, ";");
        DUE.is("THE TEXT can be read", w.strand(), 1);
        DUE.is("WIND as told", w.now(0), 1);
        DUE.is("IMAGES are gone", w.back(0), STATE);
    }

    private static void imagesAreApart() {
        WindFrontiers w = Told.strand("g3 1;");
        w.takes(0, 0, 0);
        w.keep(0);
        w.takes(1, 1, 0);
        w.keep(1);
        w.takes(2, 2, 0);
        DUE.is("back(0)", w.back(0), 0);
        DUE.is("held in 0", w.now(3), 1);
        w.leaves(0, 0);
        w.undo();
        w.undo();
        DUE.is("back(0), what was done since does not matter", w.back(0), 0);
        DUE.is("held in 0 still", w.now(3), 1);
        DUE.is("to be UNDONE in 0 still", w.count(3), 1);
        DUE.is("back(1)", w.back(1), 0);
        DUE.is("held in 1", w.now(3), 3);
        DUE.is("to be UNDONE in 1", w.count(3), 2);
        w.keep(0);
        w.undo();
        DUE.is("back(0), kept anew", w.back(0), 0);
        DUE.is("held in the new 0", w.now(3), 3);
    }
}
