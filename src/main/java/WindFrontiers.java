/**
 * A strand of cells that families hold, cloth against the wind between them, and a tide.
 * Words in capitals are those of the document (../shared/DOC.md).
 * Sets of CELLS are bits: the bit of a CELL is the one of its number, 5 y and x.
 */
public final class WindFrontiers {
    public static final int BAD = -1, STATE = -2, FULL = -3, NONE = -9;
    public static final int NO = -1000000;

    private static final int MOST_WIDE = 5;
    private static final int MOST_ROWS = 4;
    private static final int MOST_CELLS = MOST_WIDE * MOST_ROWS;
    private static final int FIRST_WIDE = 3;
    private static final int FIRST_ROWS = 3;
    private static final int FAMILIES = 5;
    private static final int MOST_BYTE = 255;
    private static final int MOST_TEXT = 150;
    private static final int MOST_UNDONE = 10;
    private static final int MOST_SEEN = 6;
    private static final int MOST_TURNING = 10;
    private static final int MOST_HOURS = 6;
    private static final int FAULTS_FROM = -10;

    private final Reader reader;
    private final Text text;
    private final Story story;
    private final Strand shore;
    private final Story firstImage;
    private final Story secondImage;
    private final Seen seen;
    private final Marks marks;

    public WindFrontiers() {
        reader = new Reader();
        text = reader.text;
        story = new Story();
        shore = story.present;
        firstImage = new Story();
        secondImage = new Story();
        seen = new Seen();
        marks = new Marks();
    }

    // ---- the strand

    public int type(int c) {
        if (!isWithin(c, MOST_BYTE)) {
            return BAD;
        }
        return text.append(c) ? text.length : FULL;
    }

    public int clear() {
        int had = text.length;
        text.length = 0;
        return had;
    }

    public int strand() {
        int answer = reader.readAll();
        if (answer >= 0) {
            shore.becomes(reader.draft);
            story.undoable = 0;
            firstImage.kept = false;
            secondImage.kept = false;
            seen.dropAll();
            text.length = 0;
        }
        return answer;
    }

    public int cell(int x, int y, int what) {
        if (!shore.isCell(x, y)) {
            return BAD;
        }
        int bit = bitOf(x, y);
        switch (what) {
            case 0: return shore.holderOf(bit);
            case 1: return oneIf((shore.cloth & bit) != 0);
            case 2: return oneIf((shore.dryCells() & bit) != 0);
            case 3: return oneIf((shore.stillBy(0) & bit) != 0);
            case 4: return oneIf((shore.stillBy(1) & bit) != 0);
            default: return BAD;
        }
    }

    public int family(int f, int what) {
        if (!isFamily(f)) {
            return BAD;
        }
        switch (what) {
            case 0: return shore.heldBy(f);
            case 1: return shore.shelterOf(f);
            case 2: return shore.losesAfter(f);
            default: return BAD;
        }
    }

    // ---- what is done

    public int takes(int f, int x, int y) {
        if (!isFamily(f) || !shore.isCell(x, y)) {
            return BAD;
        }
        int bit = bitOf(x, y);
        if ((shore.dryCells() & bit) == 0 || shore.holderOf(bit) != NONE) {
            return STATE;
        }
        story.remember();
        shore.give(f, bit);
        return Integer.bitCount(shore.heldBy(f));
    }

    public int leaves(int x, int y) {
        if (!shore.isCell(x, y)) {
            return BAD;
        }
        int bit = bitOf(x, y);
        int holder = shore.holderOf(bit);
        if (holder == NONE) {
            return STATE;
        }
        story.remember();
        shore.freeAllBut(~bit);
        return holder;
    }

    public int puts(int x, int y, int is) {
        if (!shore.isCell(x, y) || !isWithin(is, 1)) {
            return BAD;
        }
        int bit = bitOf(x, y);
        if ((shore.dryCells() & bit) == 0 || oneIf((shore.cloth & bit) != 0) == is) {
            return STATE;
        }
        story.remember();
        shore.cloth ^= bit;
        return Integer.bitCount(shore.cloth);
    }

    public int veers() {
        story.remember();
        shore.wind = 1 - shore.wind;
        return shore.wind;
    }

    public int tide(int is) {
        if (!isWithin(is, 1)) {
            return BAD;
        }
        int next = is == 1 ? shore.tide + 1 : shore.tide - 1;
        if (!isWithin(next, shore.rows)) {
            return STATE;
        }
        story.remember();
        shore.tideBecomes(next);
        return next;
    }

    public int undo() {
        return story.goBack() ? story.undoable : STATE;
    }

    public int now(int what) {
        switch (what) {
            case 0: return shore.wind;
            case 1: return shore.tide;
            case 2: return shore.cloth;
            case 3: return shore.heldByAny();
            case 4: return shore.stillBy(shore.wind);
            case 5: return shore.borderLength();
            default: return BAD;
        }
    }

    // ---- ways, cloth

    public int water(int f, int x, int y) {
        if (!isFamily(f) || !shore.isCell(x, y)) {
            return BAD;
        }
        int bit = bitOf(x, y);
        return (shore.dryCells() & bit) == 0 ? BAD : shore.fewestOthers(f, bit);
    }

    public int help(int f, int what) {
        if (!isFamily(f) || !isWithin(what, 1)) {
            return BAD;
        }
        int best = shore.bestCloth(f);
        if (best == NONE || what == 0) {
            return best;
        }
        return shore.shelterWith(f, shore.cloth | (1 << best)) - shore.shelterOf(f);
    }

    public int odds(int x, int y, int turning, int n, int what) {
        if (!shore.isCell(x, y) || !isWithin(turning, MOST_TURNING)
                || !isWithin(n, MOST_HOURS) || !isWithin(what, 1)) {
            return BAD;
        }
        int asItIs = 1;
        int turned = 0;
        int all = 1;
        for (int hour = 0; hour < n; hour++) {
            int asItWas = asItIs;
            asItIs = asItWas * (MOST_TURNING - turning) + turned * turning;
            turned = turned * (MOST_TURNING - turning) + asItWas * turning;
            all *= MOST_TURNING;
        }
        int bit = bitOf(x, y);
        int still = (shore.stillBy(shore.wind) & bit) != 0 ? asItIs : 0;
        still += (shore.stillBy(1 - shore.wind) & bit) != 0 ? turned : 0;
        return inLeastTerms(still, all, what);
    }

    // ---- what was moved

    public int saw(int x, int y, int wind, int is) {
        if (!shore.isCell(x, y) || !isWithin(wind, 1) || !isWithin(is, 1)) {
            return BAD;
        }
        return seen.add(bitOf(x, y), wind, is) ? seen.much : FULL;
    }

    public int forget() {
        int had = seen.much;
        seen.dropAll();
        return had;
    }

    public int moved(int what) {
        if (!isWithin(what, 1)) {
            return BAD;
        }
        int ways = 0;
        int first = NONE;
        for (int from = 0; from < MOST_CELLS; from++) {
            for (int to = 0; to < MOST_CELLS; to++) {
                if (mayHaveMoved(from, to)) {
                    first = ways == 0 ? 100 * from + to : first;
                    ways++;
                }
            }
        }
        return what == 0 ? ways : first;
    }

    // ---- kinds, images

    public int mark(int kind, int x, int y) {
        return shore.isCell(x, y) ? marks.markAs(kind, shore, x, y) : NO;
    }

    public int keep(int image) {
        Story chosen = imageOf(image);
        if (chosen == null) {
            return BAD;
        }
        chosen.becomes(story);
        chosen.kept = true;
        return shore.tide;
    }

    public int back(int image) {
        Story chosen = imageOf(image);
        if (chosen == null) {
            return BAD;
        }
        if (!chosen.kept) {
            return STATE;
        }
        story.becomes(chosen);
        return shore.tide;
    }

    public int count(int what) {
        switch (what) {
            case 0: return shore.wide;
            case 1: return shore.rows;
            case 2: return seen.much;
            case 3: return story.undoable;
            case 4: return text.length;
            default: return BAD;
        }
    }

    public long trace() {
        return marks.sum;
    }

    // ---- what the calls use

    private boolean mayHaveMoved(int from, int to) {
        int fromBit = 1 << from;
        int toBit = 1 << to;
        if ((shore.cloth & fromBit) == 0 || (shore.bareCells() & toBit) == 0) {
            return false;
        }
        int cloth = shore.cloth ^ fromBit ^ toBit;
        return seen.agrees(shore.stillWith(cloth, 0), shore.stillWith(cloth, 1));
    }

    private Story imageOf(int image) {
        switch (image) {
            case 0: return firstImage;
            case 1: return secondImage;
            default: return null;
        }
    }

    private static boolean isWithin(int number, int most) {
        return number >= 0 && number <= most;
    }

    private static boolean isFamily(int f) {
        return isWithin(f, FAMILIES - 1);
    }

    private static int oneIf(boolean is) {
        return is ? 1 : 0;
    }

    private static int bitOf(int x, int y) {
        return 1 << (MOST_WIDE * y + x);
    }

    /** The lower number is a power of 10, so nothing but 2 and 5 can be cut. */
    private static int inLeastTerms(int upper, int lower, int what) {
        int up = upper;
        int low = lower;
        for (int i = 0; i < MOST_HOURS; i++) {
            if (up % 2 == 0 && low % 2 == 0) {
                up /= 2;
                low /= 2;
            }
            if (up % 5 == 0 && low % 5 == 0) {
                up /= 5;
                low /= 5;
            }
        }
        return what == 0 ? up : low;
    }

    /** THE STRAND at one time: who HOLDS what, cloth, WIND and THE TIDE. */
    private static final class Strand {
        private static final int FIRST_COLUMN = 0x08421;
        private static final int LAST_COLUMN = 0x84210;

        int wide = FIRST_WIDE;
        int rows = FIRST_ROWS;
        int cloth;
        int wind;
        int tide;
        private final int[] held = new int[FAMILIES];

        void startAnew() {
            wide = FIRST_WIDE;
            rows = FIRST_ROWS;
            cloth = 0;
            wind = 0;
            tide = 0;
            freeAllBut(0);
        }

        void becomes(Strand other) {
            wide = other.wide;
            rows = other.rows;
            cloth = other.cloth;
            wind = other.wind;
            tide = other.tide;
            for (int f = 0; f < held.length; f++) {
                held[f] = other.heldBy(f);
            }
        }

        boolean isCell(int x, int y) {
            return isWithin(x, wide - 1) && isWithin(y, rows - 1);
        }

        int dryCells() {
            return cellsFrom(tide);
        }

        /** The DRY CELLS without cloth. */
        int bareCells() {
            return dryCells() & ~cloth;
        }

        private int cellsFrom(int lowest) {
            int cells = 0;
            for (int y = lowest; y < rows; y++) {
                cells |= rowOf(y);
            }
            return cells;
        }

        private int rowOf(int y) {
            return ((1 << wide) - 1) << (MOST_WIDE * y);
        }

        int heldBy(int f) {
            return f >= 0 && f < held.length ? held[f] : 0;
        }

        int heldByAny() {
            int cells = 0;
            for (int f = 0; f < held.length; f++) {
                cells |= held[f];
            }
            return cells;
        }

        int holderOf(int bit) {
            for (int f = 0; f < held.length; f++) {
                if ((held[f] & bit) != 0) {
                    return f;
                }
            }
            return NONE;
        }

        void give(int f, int bit) {
            if (f >= 0 && f < held.length) {
                held[f] |= bit;
            }
        }

        void freeAllBut(int cells) {
            for (int f = 0; f < held.length; f++) {
                held[f] &= cells;
            }
        }

        void tideBecomes(int next) {
            tide = next;
            freeAllBut(dryCells());
            cloth &= dryCells();
        }

        int stillBy(int blows) {
            return stillWith(cloth, blows);
        }

        int stillWith(int cloths, int blows) {
            int behind = blows == 0
                    ? rightOf(cloths) | rightOf(rightOf(cloths))
                    : cloths | leftOf(cloths);
            return behind & dryCells();
        }

        int shelterOf(int f) {
            return shelterWith(f, cloth);
        }

        int shelterWith(int f, int cloths) {
            return Integer.bitCount(heldBy(f) & stillWith(cloths, wind));
        }

        int borderLength() {
            int alike = twosIn(dryCells() & ~heldByAny());
            for (int f = 0; f < FAMILIES; f++) {
                alike += twosIn(heldBy(f));
            }
            return twosIn(dryCells()) - alike;
        }

        int losesAfter(int f) {
            for (int y = tide; y < rows; y++) {
                if ((heldBy(f) & rowOf(y)) != 0) {
                    return y + 1 - tide;
                }
            }
            return NONE;
        }

        /** Grows what can be reached by no CELL of others more, then by one more, till it has the water. */
        int fewestOthers(int f, int start) {
            int dry = dryCells();
            int others = heldByAny() & ~heldBy(f);
            int reached = start;
            int passed = oneIf((start & others) != 0);
            for (int i = 0; i < MOST_CELLS; i++) {
                reached = floodedOver(dry & ~others, reached);
                if ((reached & rowOf(tide)) != 0) {
                    return passed;
                }
                reached |= besideAny(reached) & dry;
                passed++;
            }
            return passed;
        }

        private static int floodedOver(int ground, int reached) {
            int cells = reached;
            for (int i = 0; i < MOST_CELLS; i++) {
                cells |= besideAny(cells) & ground;
            }
            return cells;
        }

        int bestCloth(int f) {
            int best = NONE;
            int most = -1;
            for (int number = 0; number < MOST_CELLS; number++) {
                int bit = 1 << number;
                int shelter = shelterWith(f, cloth | bit);
                if ((bareCells() & bit) != 0 && shelter > most) {
                    best = number;
                    most = shelter;
                }
            }
            return best;
        }

        int cellsBeside(int bit) {
            return Integer.bitCount(besideAny(bit) & cellsFrom(0));
        }

        private static int rightOf(int cells) {
            return (cells & ~LAST_COLUMN) << 1;
        }

        private static int leftOf(int cells) {
            return (cells & ~FIRST_COLUMN) >>> 1;
        }

        private static int besideAny(int cells) {
            return rightOf(cells) | leftOf(cells) | (cells << MOST_WIDE) | (cells >>> MOST_WIDE);
        }

        /** How many twos of CELLS side by side there are among some. */
        private static int twosIn(int cells) {
            return Integer.bitCount(cells & leftOf(cells)) + Integer.bitCount(cells & (cells >>> MOST_WIDE));
        }
    }

    /** NOW and what may be UNDONE: an IMAGE keeps one of these. */
    private static final class Story {
        final Strand present;
        private final Strand[] before;
        int undoable;
        boolean kept;

        Story() {
            present = new Strand();
            before = new Strand[MOST_UNDONE];
            for (int i = 0; i < before.length; i++) {
                before[i] = new Strand();
            }
        }

        void remember() {
            if (undoable >= before.length) {
                dropOldest();
            }
            copy(present, beforeAt(undoable));
            undoable++;
        }

        private void dropOldest() {
            for (int i = 1; i < before.length; i++) {
                copy(beforeAt(i), beforeAt(i - 1));
            }
            undoable = before.length - 1;
        }

        boolean goBack() {
            if (undoable <= 0) {
                return false;
            }
            undoable--;
            copy(beforeAt(undoable), present);
            return true;
        }

        void becomes(Story other) {
            present.becomes(other.present);
            for (int i = 0; i < before.length; i++) {
                copy(other.beforeAt(i), beforeAt(i));
            }
            undoable = other.undoable;
        }

        private Strand beforeAt(int i) {
            return i >= 0 && i < before.length ? before[i] : null;
        }

        private static void copy(Strand from, Strand to) {
            if (from != null && to != null) {
                to.becomes(from);
            }
        }
    }

    /** THE TEXT. */
    private static final class Text {
        private final int[] bytes = new int[MOST_TEXT];
        int length;

        boolean append(int c) {
            if (length < 0 || length >= bytes.length) {
                return false;
            }
            bytes[length] = c;
            length++;
            return true;
        }

        /** -1 behind the end, which is no byte. */
        int byteAt(int place) {
            return place >= 0 && place < length && place < bytes.length ? bytes[place] : -1;
        }
    }

    /** Reads THE TEXT into a draft, so that a FAULT changes nothing. FAULT is where the latest TOKEN starts. */
    private static final class Reader {
        private static final int END = 0, LETTERS = 1, NUMBER = 2, STOP = 3, UNKNOWN = 4;
        private static final int NO_VALUE = -1;

        final Text text = new Text();
        final Strand draft = new Strand();
        private int place;
        private int start;
        private int token;
        private int value;
        private int items;
        private boolean windTold;

        int readAll() {
            draft.startAnew();
            place = 0;
            items = 0;
            windTold = false;
            for (int i = 0; i <= MOST_TEXT; i++) {
                readToken();
                if (token == END) {
                    return items;
                }
                if (!isItem()) {
                    return FAULTS_FROM - start;
                }
                items++;
            }
            return items;
        }

        private boolean isItem() {
            if (token != LETTERS) {
                return false;
            }
            switch (value) {
                case 'g': return items == 0 && isSize() && isStop();
                case 'o': return isHolder() && isStop();
                case 'c': return isCloth() && isStop();
                case 'w': return !windTold && isWind() && isStop();
                default: return false;
            }
        }

        private boolean isSize() {
            readToken();
            if (!isNumber(1, MOST_WIDE)) {
                return false;
            }
            draft.wide = value;
            readToken();
            if (!isNumber(1, MOST_ROWS)) {
                return false;
            }
            draft.rows = value;
            return true;
        }

        private boolean isHolder() {
            readToken();
            if (!isNumber(0, FAMILIES - 1)) {
                return false;
            }
            int f = value;
            int bit = readFreeBit(draft.heldByAny());
            draft.give(f, bit);
            return bit != 0;
        }

        private boolean isCloth() {
            int bit = readFreeBit(draft.cloth);
            draft.cloth |= bit;
            return bit != 0;
        }

        private boolean isWind() {
            readToken();
            if (!isNumber(0, 1)) {
                return false;
            }
            draft.wind = value;
            windTold = true;
            return true;
        }

        private boolean isStop() {
            readToken();
            return token == STOP;
        }

        /** The bit of the CELL that X and Y tell; 0 if they tell none, or one that is used already. */
        private int readFreeBit(int used) {
            readToken();
            if (!isNumber(0, draft.wide - 1)) {
                return 0;
            }
            int x = value;
            readToken();
            if (!isNumber(0, draft.rows - 1)) {
                return 0;
            }
            return bitOf(x, value) & ~used;
        }

        private boolean isNumber(int least, int most) {
            return token == NUMBER && value >= least && value <= most;
        }

        /** Letters and NUMBERS of ITEMS are one byte long: longer ones, which can't stand anywhere, have no value. */
        private void readToken() {
            for (int i = 0; i < MOST_TEXT && text.byteAt(place) == ' '; i++) {
                place++;
            }
            start = place;
            token = tokenOf(text.byteAt(place));
            int most = token == LETTERS || token == NUMBER ? MOST_TEXT : 1;
            for (int i = 0; i < most && tokenOf(text.byteAt(place)) == token; i++) {
                place++;
            }
            int first = text.byteAt(start);
            int alone = token == NUMBER ? first - '0' : first;
            value = place - start == 1 ? alone : NO_VALUE;
        }

        private static int tokenOf(int c) {
            if (c >= 'a' && c <= 'z') {
                return LETTERS;
            }
            if (c >= '0' && c <= '9') {
                return NUMBER;
            }
            if (c == ';') {
                return STOP;
            }
            return c < 0 ? END : UNKNOWN;
        }
    }

    /** What was SEEN: CELLS that were STILL, and ones that were not, by each WIND. */
    private static final class Seen {
        int much;
        private int stillByLeft;
        private int stillByRight;
        private int openByLeft;
        private int openByRight;

        void dropAll() {
            much = 0;
            stillByLeft = 0;
            stillByRight = 0;
            openByLeft = 0;
            openByRight = 0;
        }

        boolean add(int bit, int wind, int is) {
            if (much >= MOST_SEEN) {
                return false;
            }
            stillByLeft |= wind == 0 && is == 1 ? bit : 0;
            stillByRight |= wind == 1 && is == 1 ? bit : 0;
            openByLeft |= wind == 0 && is == 0 ? bit : 0;
            openByRight |= wind == 1 && is == 0 ? bit : 0;
            much++;
            return true;
        }

        boolean agrees(int byLeft, int byRight) {
            return (stillByLeft & ~byLeft) == 0 && (openByLeft & byLeft) == 0
                    && (stillByRight & ~byRight) == 0 && (openByRight & byRight) == 0;
        }
    }

    /** MARKS of CELLS by KINDS, each body of which adds its number to THE TRACE. */
    private static final class Marks {
        long sum;

        int markAs(int kind, Strand strand, int x, int y) {
            switch (kind) {
                case 0: return asCell(y);
                case 1: return asCastle(strand, x, y);
                case 2: return asCorridor(x, y);
                case 3: return asEmpire(strand, x, y);
                case 4: return asPoland(strand, x, y);
                case 5: return asSalient(strand, y);
                default: return NO;
            }
        }

        private int asCell(int y) {
            sum += 1;
            return y;
        }

        private int asCastle(Strand strand, int x, int y) {
            sum += 10;
            return asCell(y) + strand.cellsBeside(bitOf(x, y));
        }

        private int asCorridor(int x, int y) {
            sum += 100;
            return asCell(y) - x;
        }

        private int asEmpire(Strand strand, int x, int y) {
            sum += 1000;
            return asCastle(strand, x, y) * 2;
        }

        private int asPoland(Strand strand, int x, int y) {
            sum += 10000;
            int holder = strand.holderOf(bitOf(x, y));
            return asCorridor(x, y) + Integer.bitCount(strand.heldBy(holder));
        }

        private int asSalient(Strand strand, int y) {
            sum += 100000;
            return asCell(y) + strand.tide;
        }
    }
}
