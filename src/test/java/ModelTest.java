import java.util.Random;

/** Long runs of calls, the same at every start, each answer compared with the model's. */
public final class ModelTest {
    private static final int RUNS = 4000;
    /** A text told at the end adds 155 calls at most, which makes fewer than the 512 that are promised. */
    private static final int CALLS = 350;
    private static final Due DUE = new Due("ModelTest");

    private final Random random;
    private final String run;
    private final WindFrontiers asked = new WindFrontiers();
    private final Model model = new Model();
    private int calls;

    private ModelTest(int seed) {
        random = new Random(seed);
        run = "run " + seed + ": ";
    }

    public static void main(String[] args) {
        for (int seed = 0; seed < RUNS && DUE.isAllRight(); seed++) {
            new ModelTest(seed).goThrough();
        }
        DUE.end();
    }

    private void goThrough() {
        int style = random.nextInt(3);
        if (style != 0) {
            tell(style == 1 ? sound() : damaged(sound()));
        }
        while (calls < CALLS) {
            if (random.nextInt(60) == 0) {
                tell(random.nextInt(3) != 0 ? sound() : damaged(sound()));
            }
            one();
        }
    }

    private void due(String call, long got, long want) {
        calls++;
        DUE.is(run + calls + ". " + call, got, want);
    }

    /** Now and then a number beyond what it may be. */
    private int upTo(int most) {
        int odd = random.nextInt(150);
        if (odd == 0) {
            return random.nextInt();
        }
        return odd < 4 ? -1 : random.nextInt(odd < 12 ? most + 2 : most + 1);
    }

    private int x() {
        return upTo(model.count(0) - 1);
    }

    private int y() {
        return upTo(model.count(1) - 1);
    }

    private String sound() {
        StringBuilder text = new StringBuilder();
        int wide = 3;
        int rows = 3;
        if (random.nextInt(4) != 0) {
            wide = 1 + random.nextInt(5);
            rows = 1 + random.nextInt(4);
            put(text, "g", wide, rows);
        }
        int items = random.nextInt(12);
        for (int i = 0; i < items && text.length() < 125; i++) {
            int x = random.nextInt(wide);
            int y = random.nextInt(rows);
            switch (random.nextInt(8)) {
                case 0 -> put(text, "w", random.nextInt(2));
                case 1, 2, 3 -> put(text, "c", x, y);
                default -> put(text, "o", random.nextInt(5), x, y);
            }
        }
        return text.toString();
    }

    private void put(StringBuilder text, String letters, int... numbers) {
        text.append(blanks(0)).append(letters);
        for (int i = 0; i < numbers.length; i++) {
            text.append(blanks(i == 0 ? 0 : 1)).append(numbers[i]);
        }
        text.append(blanks(0)).append(';');
    }

    private String blanks(int least) {
        return " ".repeat(random.nextInt(6) == 0 ? least + random.nextInt(2) : least);
    }

    private String damaged(String text) {
        StringBuilder damaged = new StringBuilder(text);
        String bytes = "gocwx0123459 ;A-\t\u00ff";
        for (int i = random.nextInt(3); i >= 0; i--) {
            int place = random.nextInt(damaged.length() + 1);
            char c = bytes.charAt(random.nextInt(bytes.length()));
            if (place == damaged.length() || random.nextBoolean()) {
                damaged.insert(place, c);
            } else if (random.nextBoolean()) {
                damaged.setCharAt(place, c);
            } else {
                damaged.setLength(place);
            }
        }
        return damaged.toString();
    }

    private void tell(String text) {
        if (random.nextInt(3) != 0) {
            due("clear()", asked.clear(), model.clear());
        }
        for (int i = 0; i < text.length(); i++) {
            int c = text.charAt(i);
            due("type(" + c + ")", asked.type(c), model.type(c));
        }
        due("strand()", asked.strand(), model.strand());
    }

    private void one() {
        switch (random.nextInt(5)) {
            case 0 -> ask();
            case 1 -> askMore();
            case 2 -> image();
            default -> act();
        }
    }

    private void act() {
        int x = x();
        int y = y();
        switch (random.nextInt(10)) {
            case 0, 1, 2 -> {
                int f = upTo(4);
                due("takes(" + f + ", " + x + ", " + y + ")", asked.takes(f, x, y), model.takes(f, x, y));
            }
            case 3 -> due("leaves(" + x + ", " + y + ")", asked.leaves(x, y), model.leaves(x, y));
            case 4, 5, 6 -> {
                int is = random.nextInt(3) == 0 ? upTo(1) : 1;
                due("puts(" + x + ", " + y + ", " + is + ")", asked.puts(x, y, is), model.puts(x, y, is));
            }
            case 7 -> due("veers()", asked.veers(), model.veers());
            case 8 -> {
                int is = random.nextInt(3) == 0 ? upTo(1) : 0;
                due("tide(" + is + ")", asked.tide(is), model.tide(is));
            }
            default -> due("undo()", asked.undo(), model.undo());
        }
    }

    private void ask() {
        int x = x();
        int y = y();
        switch (random.nextInt(5)) {
            case 0 -> {
                int what = upTo(4);
                due("cell(" + x + ", " + y + ", " + what + ")", asked.cell(x, y, what), model.cell(x, y, what));
            }
            case 1 -> {
                int f = upTo(4);
                int what = upTo(2);
                due("family(" + f + ", " + what + ")", asked.family(f, what), model.family(f, what));
            }
            case 2 -> {
                int what = upTo(5);
                due("now(" + what + ")", asked.now(what), model.now(what));
            }
            case 3 -> {
                int f = upTo(4);
                due("water(" + f + ", " + x + ", " + y + ")", asked.water(f, x, y), model.water(f, x, y));
            }
            default -> {
                int f = upTo(4);
                int what = upTo(1);
                due("help(" + f + ", " + what + ")", asked.help(f, what), model.help(f, what));
            }
        }
    }

    private void askMore() {
        int x = x();
        int y = y();
        switch (random.nextInt(5)) {
            case 0 -> {
                int turning = upTo(10);
                int n = upTo(6);
                int what = upTo(1);
                due("odds(" + x + ", " + y + ", " + turning + ", " + n + ", " + what + ")",
                        asked.odds(x, y, turning, n, what), model.odds(x, y, turning, n, what));
            }
            case 1 -> {
                int wind = upTo(1);
                int is = upTo(1);
                due("saw(" + x + ", " + y + ", " + wind + ", " + is + ")",
                        asked.saw(x, y, wind, is), model.saw(x, y, wind, is));
            }
            case 2 -> {
                int what = upTo(1);
                due("moved(" + what + ")", asked.moved(what), model.moved(what));
            }
            case 3 -> {
                int kind = upTo(5);
                due("mark(" + kind + ", " + x + ", " + y + ")", asked.mark(kind, x, y), model.mark(kind, x, y));
            }
            default -> {
                int what = upTo(4);
                due("count(" + what + ")", asked.count(what), model.count(what));
            }
        }
    }

    private void image() {
        int image = upTo(1);
        switch (random.nextInt(8)) {
            case 0, 1 -> due("keep(" + image + ")", asked.keep(image), model.keep(image));
            case 2 -> due("back(" + image + ")", asked.back(image), model.back(image));
            case 3 -> due("trace()", asked.trace(), model.trace());
            case 4 -> due("forget()", asked.forget(), model.forget());
            case 5 -> {
                int c = upTo(255);
                due("type(" + c + ")", asked.type(c), model.type(c));
            }
            case 6 -> due("strand()", asked.strand(), model.strand());
            default -> due("moved(0)", asked.moved(0), model.moved(0));
        }
    }
}
