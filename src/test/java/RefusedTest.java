import java.util.ArrayList;
import java.util.Arrays;
import java.util.List;
import java.util.function.Supplier;

/**
 * What is refused, and with what; a refused call changes nothing, nor does one that only asks.
 * An object that was asked is compared with one like it that was not: all that can be seen from outside,
 * also what may be UNDONE, what IMAGES keep, THE TEXT, what was SEEN.
 */
public final class RefusedTest {
    private static final int BAD = WindFrontiers.BAD;
    private static final int STATE = WindFrontiers.STATE;
    private static final int FULL = WindFrontiers.FULL;
    private static final int NO = WindFrontiers.NO;
    private static final Due DUE = new Due("RefusedTest");

    private interface Call {
        int of(WindFrontiers w, int[] numbers);
    }

    private record Asked(String name, Call call, int[] numbers, boolean isRefused, int due) {
        String told() {
            return name + Arrays.toString(numbers);
        }
    }

    /** A state, and the calls to be tried in it. */
    private static final class Scene {
        final String name;
        final Supplier<WindFrontiers> made;
        final List<Asked> asked = new ArrayList<>();

        Scene(String name, Supplier<WindFrontiers> made) {
            this.name = name;
            this.made = made;
        }

        void refused(String call, Call of, int due, int... numbers) {
            asked.add(new Asked(call, of, numbers, true, due));
        }

        void asks(String call, Call of, int... numbers) {
            asked.add(new Asked(call, of, numbers, false, 0));
        }

        /** Each number in turn below, and above, what it may be; the others are as told. */
        void wrong(String call, Call of, int due, int[] most, int... numbers) {
            for (int i = 0; i < numbers.length; i++) {
                for (int wrong : new int[] {-1, most[i] + 1, most[i] + 256, Integer.MIN_VALUE, Integer.MAX_VALUE}) {
                    int[] changed = numbers.clone();
                    changed[i] = wrong;
                    refused(call, of, due, changed);
                }
            }
            int[] all = new int[numbers.length];
            Arrays.fill(all, -1);
            refused(call, of, due, all);
        }
    }

    private static final Call TYPE = (w, n) -> w.type(n[0]);
    private static final Call STRAND = (w, n) -> w.strand();
    private static final Call CELL = (w, n) -> w.cell(n[0], n[1], n[2]);
    private static final Call FAMILY = (w, n) -> w.family(n[0], n[1]);
    private static final Call TAKES = (w, n) -> w.takes(n[0], n[1], n[2]);
    private static final Call LEAVES = (w, n) -> w.leaves(n[0], n[1]);
    private static final Call PUTS = (w, n) -> w.puts(n[0], n[1], n[2]);
    private static final Call TIDE = (w, n) -> w.tide(n[0]);
    private static final Call UNDO = (w, n) -> w.undo();
    private static final Call NOW = (w, n) -> w.now(n[0]);
    private static final Call WATER = (w, n) -> w.water(n[0], n[1], n[2]);
    private static final Call HELP = (w, n) -> w.help(n[0], n[1]);
    private static final Call ODDS = (w, n) -> w.odds(n[0], n[1], n[2], n[3], n[4]);
    private static final Call SAW = (w, n) -> w.saw(n[0], n[1], n[2], n[3]);
    private static final Call MOVED = (w, n) -> w.moved(n[0]);
    private static final Call MARK = (w, n) -> w.mark(n[0], n[1], n[2]);
    private static final Call KEEP = (w, n) -> w.keep(n[0]);
    private static final Call BACK = (w, n) -> w.back(n[0]);
    private static final Call COUNT = (w, n) -> w.count(n[0]);

    public static void main(String[] args) {
        tryAll(aNewOne());
        tryAll(aFullOne());
        tryAll(oneUnderWater());
        tryAll(oneWithAFault());
        DUE.end();
    }

    // ---- states

    private static Scene aNewOne() {
        Scene scene = new Scene("a new one", WindFrontiers::new);
        badNumbers(scene, 3, 3, 2, 2);
        asking(scene, 3, 3);
        scene.refused("leaves", LEAVES, STATE, 0, 0);
        scene.refused("leaves", LEAVES, STATE, 2, 2);
        scene.refused("puts", PUTS, STATE, 0, 0, 0);
        scene.refused("puts", PUTS, STATE, 2, 2, 0);
        scene.refused("tide", TIDE, STATE, 0);
        scene.refused("undo", UNDO, STATE);
        scene.refused("back", BACK, STATE, 0);
        scene.refused("back", BACK, STATE, 1);
        return scene;
    }

    /** 5 by 4, THE TIDE 1, ten known, IMAGES of other states, all that may be SEEN, 150 bytes. */
    private static WindFrontiers full() {
        WindFrontiers w = Told.strand("g5 4;o0 0 1;o1 4 3;o4 2 2;c0 1;c4 3;c1 2;w1;");
        w.takes(3, 3, 3);
        w.keep(0);
        w.tide(1);
        w.veers();
        w.keep(1);
        for (int i = 0; i < 5; i++) {
            w.takes(i, i, i == 0 ? 2 : 1);
            w.puts(i, 3, i == 4 ? 0 : 1);
        }
        for (int i = 0; i < 6; i++) {
            w.saw(4, 1, 1, 0);
        }
        w.mark(4, 1, 1);
        Told.types(w, "w0;" + " ".repeat(147));
        return w;
    }

    private static Scene aFullOne() {
        Scene scene = new Scene("a full one", RefusedTest::full);
        badNumbers(scene, 5, 4, 0, 1);
        asking(scene, 5, 4);
        scene.refused("type", TYPE, FULL, 'w');
        scene.refused("type", TYPE, FULL, 0);
        scene.refused("type", TYPE, FULL, 255);
        scene.refused("saw", SAW, FULL, 0, 0, 0, 0);
        scene.refused("saw", SAW, FULL, 4, 3, 1, 1);
        scene.refused("takes its own", TAKES, STATE, 0, 0, 1);
        scene.refused("takes another's", TAKES, STATE, 2, 4, 3);
        scene.refused("takes under water", TAKES, STATE, 2, 4, 0);
        scene.refused("leaves nobody's", LEAVES, STATE, 0, 3);
        scene.refused("leaves under water", LEAVES, STATE, 0, 0);
        scene.refused("puts where there is cloth", PUTS, STATE, 0, 1, 1);
        scene.refused("pulls where there is none", PUTS, STATE, 4, 3, 0);
        scene.refused("puts under water", PUTS, STATE, 0, 0, 1);
        scene.refused("pulls under water", PUTS, STATE, 4, 0, 0);
        scene.refused("water under water", WATER, BAD, 0, 0, 0);
        scene.refused("water under water", WATER, BAD, 4, 4, 0);
        return scene;
    }

    private static WindFrontiers underWater() {
        WindFrontiers w = Told.strand("g2 3;o0 0 0;o1 1 2;c0 2;c1 1;");
        w.keep(1);
        w.tide(1);
        w.tide(1);
        w.tide(1);
        w.saw(1, 2, 0, 0);
        return w;
    }

    private static Scene oneUnderWater() {
        Scene scene = new Scene("one under water", RefusedTest::underWater);
        badNumbers(scene, 2, 3, 1, 2);
        asking(scene, 2, 3);
        scene.refused("tide", TIDE, STATE, 1);
        scene.refused("back", BACK, STATE, 0);
        for (int x = 0; x < 2; x++) {
            for (int y = 0; y < 3; y++) {
                scene.refused("takes", TAKES, STATE, 0, x, y);
                scene.refused("leaves", LEAVES, STATE, x, y);
                scene.refused("puts", PUTS, STATE, x, y, 0);
                scene.refused("puts", PUTS, STATE, x, y, 1);
                scene.refused("water", WATER, BAD, 4, x, y);
            }
        }
        return scene;
    }

    private static WindFrontiers withAFault() {
        WindFrontiers w = Told.strand("g1 1;o2 0 0;c0 0;w1;");
        w.saw(0, 0, 1, 1);
        w.keep(0);
        w.keep(1);
        w.veers();
        w.veers();
        w.undo();
        w.undo();
        Told.types(w, "g5 4;o1 1 1;c1 1;w0;w");
        return w;
    }

    private static Scene oneWithAFault() {
        Scene scene = new Scene("one with a FAULT", RefusedTest::withAFault);
        badNumbers(scene, 1, 1, 0, 0);
        asking(scene, 1, 1);
        scene.refused("strand", STRAND, -10 - 20);
        scene.refused("undo", UNDO, STATE);
        scene.refused("tide", TIDE, STATE, 0);
        scene.refused("takes", TAKES, STATE, 2, 0, 0);
        scene.refused("puts", PUTS, STATE, 0, 0, 1);
        return scene;
    }

    // ---- calls to be tried

    private static void badNumbers(Scene scene, int wide, int rows, int x, int y) {
        int right = wide - 1;
        int top = rows - 1;
        scene.wrong("type", TYPE, BAD, new int[] {255}, 'w');
        scene.wrong("cell", CELL, BAD, new int[] {right, top, 4}, x, y, 1);
        scene.wrong("family", FAMILY, BAD, new int[] {4, 2}, 0, 0);
        scene.wrong("takes", TAKES, BAD, new int[] {4, right, top}, 0, x, y);
        scene.wrong("leaves", LEAVES, BAD, new int[] {right, top}, x, y);
        scene.wrong("puts", PUTS, BAD, new int[] {right, top, 1}, x, y, 1);
        scene.wrong("puts", PUTS, BAD, new int[] {right, top, 1}, x, y, 0);
        scene.wrong("tide", TIDE, BAD, new int[] {1}, 1);
        scene.wrong("now", NOW, BAD, new int[] {5}, 0);
        scene.wrong("water", WATER, BAD, new int[] {4, right, top}, 0, x, y);
        scene.wrong("help", HELP, BAD, new int[] {4, 1}, 0, 0);
        scene.wrong("odds", ODDS, BAD, new int[] {right, top, 10, 6, 1}, x, y, 5, 3, 0);
        scene.wrong("saw", SAW, BAD, new int[] {right, top, 1, 1}, x, y, 0, 1);
        scene.wrong("moved", MOVED, BAD, new int[] {1}, 0);
        scene.wrong("mark", MARK, NO, new int[] {5, right, top}, 3, x, y);
        scene.wrong("keep", KEEP, BAD, new int[] {1}, 0);
        scene.wrong("back", BACK, BAD, new int[] {1}, 0);
        scene.wrong("count", COUNT, BAD, new int[] {4}, 0);
    }

    private static void asking(Scene scene, int wide, int rows) {
        for (int x = 0; x < wide; x += 2) {
            for (int y = 0; y < rows; y++) {
                for (int what = 0; what <= 4; what++) {
                    scene.asks("cell", CELL, x, y, what);
                    scene.asks("water", WATER, what, x, y);
                }
                scene.asks("odds", ODDS, x, y, 3, 6, 0);
                scene.asks("odds", ODDS, x, y, 10, 5, 1);
            }
        }
        for (int f = 0; f <= 4; f++) {
            scene.asks("help", HELP, f, 0);
            scene.asks("help", HELP, f, 1);
            for (int what = 0; what <= 2; what++) {
                scene.asks("family", FAMILY, f, what);
            }
        }
        for (int what = 0; what <= 5; what++) {
            scene.asks("now", NOW, what);
        }
        for (int what = 0; what <= 4; what++) {
            scene.asks("count", COUNT, what);
        }
        scene.asks("moved", MOVED, 0);
        scene.asks("moved", MOVED, 1);
    }

    // ---- what can be seen

    private static void tryAll(Scene scene) {
        for (View view : View.values()) {
            List<Long> due = view.of(scene.made.get());
            for (Asked asked : scene.asked) {
                WindFrontiers w = scene.made.get();
                String told = scene.name + ": " + asked.told();
                int answer = asked.call.of(w, asked.numbers);
                if (asked.isRefused) {
                    DUE.is(told, answer, asked.due);
                }
                DUE.is(told + " again", asked.call.of(w, asked.numbers), answer);
                List<Long> seen = view.of(w);
                DUE.is(told + " changes nothing of " + view + " " + due + " " + seen, seen.equals(due) ? 1 : 0, 1);
            }
        }
    }

    /** Each looks at one object, and uses it up: an object is used for 512 calls at most. */
    private enum View {
        NOW, TEXT, FIRST_IMAGE, SECOND_IMAGE;

        List<Long> of(WindFrontiers w) {
            List<Long> seen = new ArrayList<>();
            switch (this) {
                case NOW -> seen.add(w.trace());
                case TEXT -> read(w, seen);
                case FIRST_IMAGE -> seen.add((long) w.back(0));
                default -> seen.add((long) w.back(1));
            }
            look(w, seen);
            while (seen.get(seen.size() - 1) != STATE && seen.size() < 300) {
                long more = w.undo();
                look(w, seen);
                seen.add(more);
            }
            return seen;
        }

        private static void read(WindFrontiers w, List<Long> seen) {
            seen.add((long) w.strand());
            seen.add((long) w.clear());
        }

        private static void look(WindFrontiers w, List<Long> seen) {
            for (int what = 0; what <= 3; what++) {
                seen.add((long) w.now(what));
            }
            for (int f = 0; f <= 4; f++) {
                seen.add((long) w.family(f, 0));
            }
            for (int what = 0; what <= 4; what++) {
                seen.add((long) w.count(what));
            }
            seen.add((long) w.moved(0));
            seen.add((long) w.moved(1));
        }
    }
}
