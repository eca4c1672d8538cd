import java.math.BigInteger;
import java.util.ArrayList;
import java.util.Arrays;
import java.util.List;
import java.util.PriorityQueue;
import java.util.regex.Matcher;
import java.util.regex.Pattern;

/** The document once more, as plainly as the Java library allows, to compare the class with. */
final class Model {
    private static final int BAD = -1, STATE = -2, FULL = -3, NONE = -9, NO = -1000000;
    private static final int[][] SIDES = {{1, 0}, {-1, 0}, {0, 1}, {0, -1}};
    private static final Pattern TOKEN = Pattern.compile(" *([a-z]+|[0-9]+|;|\\z|[^ ])", Pattern.DOTALL);

    private static final class Scene {
        int[][] holder = new int[5][4];
        boolean[][] cloth = new boolean[5][4];
        int wind;
        int tide;

        Scene() {
            for (int[] column : holder) {
                Arrays.fill(column, NONE);
            }
        }

        Scene copy() {
            Scene scene = new Scene();
            for (int x = 0; x < 5; x++) {
                scene.holder[x] = holder[x].clone();
                scene.cloth[x] = cloth[x].clone();
            }
            scene.wind = wind;
            scene.tide = tide;
            return scene;
        }
    }

    private record Saved(Scene scene, List<Scene> past) { }

    private record Sight(int x, int y, int wind, boolean is) { }

    private record Way(int x, int y, int others) { }

    private static final class Fault extends Exception {
        private static final long serialVersionUID = 1L;
        final int place;

        Fault(int place) {
            this.place = place;
        }
    }

    private StringBuilder text = new StringBuilder();
    private int wide = 3;
    private int rows = 3;
    private Scene scene = new Scene();
    private List<Scene> past = new ArrayList<>();
    private Saved[] images = new Saved[2];
    private final List<Sight> seen = new ArrayList<>();
    private long trace;

    int type(int c) {
        if (c < 0 || c > 255) {
            return BAD;
        }
        if (text.length() == 150) {
            return FULL;
        }
        text.append((char) c);
        return text.length();
    }

    int clear() {
        int had = text.length();
        text = new StringBuilder();
        return had;
    }

    /** Reads TOKENS one by one; told holds what the text tells so far. */
    private static final class Telling {
        final Matcher matcher;
        final int end;
        final Scene told = new Scene();
        int wide = 3;
        int rows = 3;
        int start;
        boolean wind;

        Telling(String text) {
            matcher = TOKEN.matcher(text);
            end = text.length();
        }

        String token() throws Fault {
            if (!matcher.find()) {
                throw new Fault(end);
            }
            start = matcher.start(1);
            return matcher.group(1);
        }

        int number(int least, int most) throws Fault {
            String digits = token();
            if (!digits.matches("0|[1-9][0-9]?") || Integer.parseInt(digits) < least
                    || Integer.parseInt(digits) > most) {
                throw new Fault(start);
            }
            return Integer.parseInt(digits);
        }

        void need(boolean is) throws Fault {
            if (!is) {
                throw new Fault(start);
            }
        }

        int items() throws Fault {
            for (int items = 0;; items++) {
                String letters = token();
                if (letters.isEmpty()) {
                    return items;
                }
                switch (letters) {
                    case "g" -> size(items);
                    case "o" -> holder();
                    case "c" -> cloth();
                    case "w" -> wind();
                    default -> need(false);
                }
                need(token().equals(";"));
            }
        }

        void size(int items) throws Fault {
            need(items == 0);
            wide = number(1, 5);
            rows = number(1, 4);
        }

        void holder() throws Fault {
            int f = number(0, 4);
            int x = number(0, wide - 1);
            int y = number(0, rows - 1);
            need(told.holder[x][y] == NONE);
            told.holder[x][y] = f;
        }

        void cloth() throws Fault {
            int x = number(0, wide - 1);
            int y = number(0, rows - 1);
            need(!told.cloth[x][y]);
            told.cloth[x][y] = true;
        }

        void wind() throws Fault {
            need(!wind);
            wind = true;
            told.wind = number(0, 1);
        }
    }

    int strand() {
        Telling telling = new Telling(text.toString());
        int items;
        try {
            items = telling.items();
        } catch (Fault fault) {
            return -10 - fault.place;
        }
        wide = telling.wide;
        rows = telling.rows;
        scene = telling.told;
        past = new ArrayList<>();
        images = new Saved[2];
        seen.clear();
        text = new StringBuilder();
        return items;
    }

    private boolean is(int x, int y) {
        return x >= 0 && x < wide && y >= 0 && y < rows;
    }

    private boolean dry(int x, int y) {
        return is(x, y) && y >= scene.tide;
    }

    private boolean clothAt(int x, int y) {
        return is(x, y) && scene.cloth[x][y];
    }

    private boolean still(int x, int y, int wind) {
        return dry(x, y) && (wind == 0
                ? clothAt(x - 1, y) || clothAt(x - 2, y)
                : clothAt(x, y) || clothAt(x + 1, y));
    }

    int cell(int x, int y, int what) {
        if (!is(x, y) || what < 0 || what > 4) {
            return BAD;
        }
        return switch (what) {
            case 0 -> scene.holder[x][y];
            case 1 -> scene.cloth[x][y] ? 1 : 0;
            case 2 -> dry(x, y) ? 1 : 0;
            default -> still(x, y, what - 3) ? 1 : 0;
        };
    }

    private int shelter(int f) {
        int sum = 0;
        for (int x = 0; x < wide; x++) {
            for (int y = 0; y < rows; y++) {
                sum += scene.holder[x][y] == f && still(x, y, scene.wind) ? 1 : 0;
            }
        }
        return sum;
    }

    int family(int f, int what) {
        if (f < 0 || f > 4 || what < 0 || what > 2) {
            return BAD;
        }
        int bits = 0;
        int lowest = 99;
        for (int x = 0; x < wide; x++) {
            for (int y = 0; y < rows; y++) {
                if (scene.holder[x][y] == f) {
                    bits += 1 << (5 * y + x);
                    lowest = Math.min(lowest, y);
                }
            }
        }
        if (what == 0) {
            return bits;
        }
        return what == 1 ? shelter(f) : bits == 0 ? NONE : lowest - scene.tide + 1;
    }

    private void remember() {
        past.add(scene.copy());
        if (past.size() > 10) {
            past.remove(0);
        }
    }

    int takes(int f, int x, int y) {
        if (f < 0 || f > 4 || !is(x, y)) {
            return BAD;
        }
        if (!dry(x, y) || scene.holder[x][y] != NONE) {
            return STATE;
        }
        remember();
        scene.holder[x][y] = f;
        return Integer.bitCount(family(f, 0));
    }

    int leaves(int x, int y) {
        if (!is(x, y)) {
            return BAD;
        }
        if (scene.holder[x][y] == NONE) {
            return STATE;
        }
        remember();
        int was = scene.holder[x][y];
        scene.holder[x][y] = NONE;
        return was;
    }

    int puts(int x, int y, int is) {
        if (!is(x, y) || is < 0 || is > 1) {
            return BAD;
        }
        if (!dry(x, y) || scene.cloth[x][y] == (is == 1)) {
            return STATE;
        }
        remember();
        scene.cloth[x][y] = is == 1;
        return Integer.bitCount(now(2));
    }

    int veers() {
        remember();
        scene.wind = scene.wind == 0 ? 1 : 0;
        return scene.wind;
    }

    int tide(int is) {
        if (is != 0 && is != 1) {
            return BAD;
        }
        if (scene.tide == (is == 0 ? 0 : rows)) {
            return STATE;
        }
        remember();
        if (is == 1) {
            for (int x = 0; x < wide; x++) {
                scene.holder[x][scene.tide] = NONE;
                scene.cloth[x][scene.tide] = false;
            }
        }
        scene.tide += is == 1 ? 1 : -1;
        return scene.tide;
    }

    int undo() {
        if (past.isEmpty()) {
            return STATE;
        }
        scene = past.remove(past.size() - 1);
        return past.size();
    }

    int now(int what) {
        if (what == 0) {
            return scene.wind;
        }
        if (what == 1) {
            return scene.tide;
        }
        if (what < 0 || what > 5) {
            return BAD;
        }
        int bits = 0;
        int border = 0;
        for (int x = 0; x < wide; x++) {
            for (int y = 0; y < rows; y++) {
                boolean is = what == 2 ? scene.cloth[x][y]
                        : what == 3 ? scene.holder[x][y] != NONE : still(x, y, scene.wind);
                bits += is ? 1 << (5 * y + x) : 0;
                border += unlike(x, y, x + 1, y) + unlike(x, y, x, y + 1);
            }
        }
        return what == 5 ? border : bits;
    }

    private int unlike(int x, int y, int nextX, int nextY) {
        return dry(x, y) && dry(nextX, nextY) && scene.holder[x][y] != scene.holder[nextX][nextY] ? 1 : 0;
    }

    int water(int f, int x, int y) {
        if (f < 0 || f > 4 || !dry(x, y)) {
            return BAD;
        }
        boolean[][] been = new boolean[5][4];
        PriorityQueue<Way> ways = new PriorityQueue<>((a, b) -> Integer.compare(a.others, b.others));
        ways.add(new Way(x, y, foreign(f, x, y)));
        while (true) {
            Way way = ways.remove();
            if (way.y == scene.tide) {
                return way.others;
            }
            if (been[way.x][way.y]) {
                continue;
            }
            been[way.x][way.y] = true;
            for (int[] side : SIDES) {
                int nextX = way.x + side[0];
                int nextY = way.y + side[1];
                if (dry(nextX, nextY)) {
                    ways.add(new Way(nextX, nextY, way.others + foreign(f, nextX, nextY)));
                }
            }
        }
    }

    private int foreign(int f, int x, int y) {
        return scene.holder[x][y] != NONE && scene.holder[x][y] != f ? 1 : 0;
    }

    int help(int f, int what) {
        if (f < 0 || f > 4 || what < 0 || what > 1) {
            return BAD;
        }
        int ahead = shelter(f);
        int best = NONE;
        int most = -1;
        for (int y = 0; y < rows; y++) {
            for (int x = 0; x < wide; x++) {
                if (dry(x, y) && !scene.cloth[x][y]) {
                    scene.cloth[x][y] = true;
                    int more = shelter(f) - ahead;
                    scene.cloth[x][y] = false;
                    if (more > most) {
                        most = more;
                        best = 5 * y + x;
                    }
                }
            }
        }
        return best == NONE || what == 0 ? best : most;
    }

    int odds(int x, int y, int turning, int n, int what) {
        if (!is(x, y) || turning < 0 || turning > 10 || n < 0 || n > 6 || what < 0 || what > 1) {
            return BAD;
        }
        long upper = 0;
        for (int turns = 0; turns < 1 << n; turns++) {
            long product = 1;
            for (int hour = 0; hour < n; hour++) {
                product *= (turns >> hour & 1) == 1 ? turning : 10 - turning;
            }
            int wind = (scene.wind + Integer.bitCount(turns)) % 2;
            upper += still(x, y, wind) ? product : 0;
        }
        BigInteger up = BigInteger.valueOf(upper);
        BigInteger low = BigInteger.TEN.pow(n);
        return (what == 0 ? up : low).divide(up.gcd(low)).intValueExact();
    }

    int saw(int x, int y, int wind, int is) {
        if (!is(x, y) || wind < 0 || wind > 1 || is < 0 || is > 1) {
            return BAD;
        }
        if (seen.size() == 6) {
            return FULL;
        }
        seen.add(new Sight(x, y, wind, is == 1));
        return seen.size();
    }

    int forget() {
        int had = seen.size();
        seen.clear();
        return had;
    }

    int moved(int what) {
        if (what < 0 || what > 1) {
            return BAD;
        }
        List<Integer> ways = new ArrayList<>();
        for (int from = 0; from < 20; from++) {
            for (int to = 0; to < 20; to++) {
                if (clothAt(from % 5, from / 5) && dry(to % 5, to / 5) && !scene.cloth[to % 5][to / 5]) {
                    scene.cloth[from % 5][from / 5] = false;
                    scene.cloth[to % 5][to / 5] = true;
                    if (seen.stream().allMatch(s -> still(s.x, s.y, s.wind) == s.is)) {
                        ways.add(100 * from + to);
                    }
                    scene.cloth[from % 5][from / 5] = true;
                    scene.cloth[to % 5][to / 5] = false;
                }
            }
        }
        return what == 0 ? ways.size() : ways.isEmpty() ? NONE : ways.get(0);
    }

    private class Cell {
        int mark(int x, int y) {
            trace += 1;
            return y;
        }
    }

    private class Castle extends Cell {
        @Override
        int mark(int x, int y) {
            trace += 10;
            int beside = 0;
            for (int[] side : SIDES) {
                beside += is(x + side[0], y + side[1]) ? 1 : 0;
            }
            return super.mark(x, y) + beside;
        }
    }

    private class Corridor extends Cell {
        @Override
        int mark(int x, int y) {
            trace += 100;
            return super.mark(x, y) - x;
        }
    }

    private class Empire extends Castle {
        @Override
        int mark(int x, int y) {
            trace += 1000;
            return super.mark(x, y) * 2;
        }
    }

    private class Poland extends Corridor {
        @Override
        int mark(int x, int y) {
            trace += 10000;
            int holder = scene.holder[x][y];
            return super.mark(x, y) + (holder == NONE ? 0 : Integer.bitCount(family(holder, 0)));
        }
    }

    private class Salient extends Cell {
        @Override
        int mark(int x, int y) {
            trace += 100000;
            return super.mark(x, y) + scene.tide;
        }
    }

    int mark(int kind, int x, int y) {
        Cell[] kinds = {new Cell(), new Castle(), new Corridor(), new Empire(), new Poland(), new Salient()};
        return kind < 0 || kind > 5 || !is(x, y) ? NO : kinds[kind].mark(x, y);
    }

    private static List<Scene> copies(List<Scene> scenes) {
        List<Scene> copies = new ArrayList<>();
        for (Scene one : scenes) {
            copies.add(one.copy());
        }
        return copies;
    }

    int keep(int image) {
        if (image < 0 || image > 1) {
            return BAD;
        }
        images[image] = new Saved(scene.copy(), copies(past));
        return scene.tide;
    }

    int back(int image) {
        if (image < 0 || image > 1) {
            return BAD;
        }
        if (images[image] == null) {
            return STATE;
        }
        scene = images[image].scene.copy();
        past = copies(images[image].past);
        return scene.tide;
    }

    int count(int what) {
        return switch (what) {
            case 0 -> wide;
            case 1 -> rows;
            case 2 -> seen.size();
            case 3 -> past.size();
            case 4 -> text.length();
            default -> BAD;
        };
    }

    long trace() {
        return trace;
    }
}
