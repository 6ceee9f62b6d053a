import java.util.Arrays;

/** A city of one wall, all live along it: ../shared/DOC.md says by numbered promises what each call answers. */
public final class OneWall {
    public static final int BAD = -1, NOT = -2, FULL = -3, STATE = -5, VOID = -2000000000;

    private static final int NOTHING = -11, OTHER_KIND = -12, NO_PLACE = -13, BELOW_ZERO = -14;
    private static final int MOST_MINUTES = 999, LAST_MINUTE = 9999;

    private final Wall wall = new Wall();
    private final Changes changes = new Changes();
    private final Law laws = new Law();
    private final Ways ways = new Ways();
    private final Frost nights = new Frost();
    private final Debts debts = new Debts();
    private final Debts debtsInImage = new Debts();
    private final Deeds deeds = new Deeds();
    private final Deeds deedsInImage = new Deeds();
    private final Bodies bodies = new Bodies();
    private final Shelves shelves = new Shelves();
    private boolean imageKept;

    public OneWall() {
    }

    // ---- yards, holes, lanes

    public int hole(int yard) {
        if (!wall.hasYard(yard)) {
            return BAD;
        }
        return wall.holes >= Wall.MOST_HOLES ? FULL : wall.addHole(yard);
    }

    public int lane(int ab) {
        if (!arePlaces(ab) || ab / 100 == ab % 100) {
            return BAD;
        }
        return wall.lanes >= Wall.MOST_LANES ? FULL : wall.addLane(ab / 100, ab % 100);
    }

    public int mend(int number, int what, int v) {
        if (!wall.has(what, number) || !Wall.allows(what, v)) {
            return VOID;
        }
        int before = wall.value(what, number);
        change(what, number, v);
        return before;
    }

    public int of(int number, int what) {
        return wall.has(what, number) ? wall.value(what, number) : VOID;
    }

    public int yards(int shelf, int i, int yn) {
        int first = yn / 100, n = yn % 100;
        if (!Shelves.has(shelf) || yn < 0 || first >= Wall.MOST_YARDS || n < 1 || n > Wall.MOST_YARDS) {
            return BAD;
        }
        if (shelves.isEmpty(shelf)) {
            return 0;
        }
        if (!shelves.holdsRow(shelf, Shelves.BYTES)) {
            return OTHER_KIND;
        }
        int told = 0;
        while (told < n && takeYard(shelf, i + 3L * told, first + told)) {
            told++;
        }
        return told;
    }

    public int feed(int letter) {
        if (letter < 0 || letter > 255) {
            return BAD;
        }
        return laws.takeByte(letter) ? laws.fed : FULL;
    }

    public int law() {
        int fault = laws.readTape();
        return fault < 0 ? 1 : -100 - fault;
    }

    // ---- ways

    public int way(int ab, int what) {
        if (!arePlaces(ab) || what < 0 || what > 1) {
            return BAD;
        }
        int from = ab / 100, to = ab % 100;
        ways.lay(wall, laws);
        ways.spreadBack(to);
        if (ways.minutes(from) >= Ways.NONE) {
            return NOT;
        }
        if (what == 0) {
            return ways.minutes(from);
        }
        return from == to ? to : ways.firstStep(from);
    }

    public int far(int place, int what) {
        if (!wall.hasPlace(place) || what < 0 || what > 2) {
            return BAD;
        }
        ways.lay(wall, laws);
        ways.spread(place, Ways.NO_CROSSING);
        if (what == 2) {
            return ways.countWithin(Ways.NONE - 1);
        }
        int farthest = ways.farthest();
        return what == 0 ? ways.minutes(farthest) : farthest;
    }

    public int reach(int place, int sm) {
        if (!wall.hasPlace(place) || sm < 0 || sm / 1000 > 1) {
            return BAD;
        }
        ways.lay(wall, laws);
        ways.spread(place, Ways.NO_CROSSING);
        return ways.yardsWithin(sm / 1000, sm % 1000);
    }

    public int widest() {
        ways.lay(wall, laws);
        ways.spreadFromAll();
        int widest = ways.widestOfAll();
        return widest >= Ways.NONE ? NOT : widest;
    }

    public int dig(int what) {
        if (what < 0 || what > 1) {
            return BAD;
        }
        ways.lay(wall, laws);
        ways.spreadFromAll();
        int yard = 0, least = Ways.NONE;
        for (int y = 0; y < wall.yardsNow(); y++) {
            int widest = ways.widestWithHole(y, least);
            if (widest < least) {
                least = widest;
                yard = y;
            }
        }
        return what == 0 ? yard : least;
    }

    public int spare(int ab, int what) {
        if (!arePlaces(ab) || what < 0 || what > 3) {
            return BAD;
        }
        ways.lay(wall, laws);
        boolean ofHoles = what < 2;
        int crossings = ofHoles ? wall.holes : wall.lanes;
        int which = NOT, longest = NOT;
        for (int c = 0; c < crossings; c++) {
            if (ofHoles ? wall.isHoleOpen(c) : wall.isLaneOpen(c)) {
                ways.spread(ab / 100, ofHoles ? c : Wall.MOST_HOLES + c);
                int minutes = ways.minutes(ab % 100);
                if (minutes > longest) {
                    longest = minutes;
                    which = c;
                }
            }
        }
        return what % 2 == 0 ? which : longest;
    }

    public int pace(int ab, int m, int what) {
        if (!areYards(ab) || m < 0 || m > MOST_MINUTES || what < 0 || what > 1) {
            return BAD;
        }
        int often = 0, first = NOT;
        for (int minute = 0; minute <= m; minute++) {
            if (upwardAt(ab / 100, minute) == downwardAt(ab % 100, minute)) {
                first = often == 0 ? minute : first;
                often++;
            }
        }
        return what == 0 ? often : first;
    }

    public int meet(int ab) {
        if (!areYards(ab)) {
            return BAD;
        }
        for (int minute = 0; minute <= MOST_MINUTES; minute++) {
            int yard = upwardAt(ab / 100, minute);
            if (yard == downwardAt(ab % 100, minute) && wall.hasOpenHole(yard)) {
                return minute;
            }
        }
        return NOT;
    }

    // ---- news, frost, bricks

    public int news(int ab) {
        return arePlaces(ab) ? News.hearing(wall, ab / 100, ab % 100) : BAD;
    }

    public int heard(int place, int m) {
        if (!wall.hasPlace(place) || m < -1 || m > MOST_MINUTES) {
            return BAD;
        }
        return m < 0 ? News.lastToHear(wall, place) : News.howManyHear(wall, place, m);
    }

    public int whence(int ab, int mn, int what) {
        if (!arePlaces(ab) || mn < 0 || mn > 9999 || what < 0 || what > 1) {
            return BAD;
        }
        int apart = mn / 100 - mn % 100;
        int least = NOT, howMany = 0;
        for (int place = 0; place < wall.placesNow(); place++) {
            if (News.hearing(wall, place, ab / 100) - News.hearing(wall, place, ab % 100) == apart) {
                least = howMany == 0 ? place : least;
                howMany++;
            }
        }
        return what == 0 ? howMany : least;
    }

    public int frost(int n, int yard) {
        if (n < 0 || n > Frost.MOST_NIGHTS || !wall.hasYard(yard)) {
            return BAD;
        }
        nights.begin(wall);
        for (int night = 0; night < n; night++) {
            nights.pass(wall);
        }
        return nights.warmth(yard);
    }

    public int frozen(int what) {
        if (what < 0 || what > 1) {
            return BAD;
        }
        nights.begin(wall);
        for (int night = 0; night <= Frost.MOST_NIGHTS; night++) {
            int yard = nights.firstAtZero();
            if (yard >= 0) {
                return what == 0 ? yard : night;
            }
            nights.pass(wall);
        }
        return NOT;
    }

    public int tax(int owner) {
        if (!Debts.hasOwner(owner)) {
            return BAD;
        }
        int sum = 0;
        for (int y = 0; y < wall.yardsNow(); y++) {
            if (wall.value(Wall.OWNER, y) == owner) {
                sum += wall.value(Wall.RATE, 0) * (wall.isWarmest(y) ? 2 : 1);
            }
        }
        return sum;
    }

    public int lend(int ab, int n) {
        if (!areOwners(ab) || n < -99 || n > 99) {
            return BAD;
        }
        int then = debts.lent(ab / 10, ab % 10) + n;
        if (then < 0 || then > Debts.MOST_LENT) {
            return STATE;
        }
        debts.set(ab / 10, ab % 10, then);
        return then;
    }

    public int bricks(int ab, int what) {
        if (what == 0) {
            return Debts.hasOwner(ab) ? debts.owed(ab) : VOID;
        }
        if (!areOwners(ab) || what < 1 || what > 2) {
            return VOID;
        }
        return what == 1 ? debts.lent(ab / 10, ab % 10) : debts.lentWhenCleared(ab / 10, ab % 10);
    }

    // ---- seen, drawn

    public int oneMan(int shelf) {
        int refusal = shelves.refusalOfRow(shelf, Shelves.SHORTS);
        if (refusal != 0) {
            return refusal;
        }
        ways.lay(wall, laws);
        return Seen.firstUnlikely(shelves, shelf, ways);
    }

    public int where(int shelf, int m, int place) {
        if (m < 0 || m > LAST_MINUTE || place != -1 && !wall.hasPlace(place)) {
            return BAD;
        }
        int refusal = shelves.refusalOfRow(shelf, Shelves.SHORTS);
        if (refusal != 0) {
            return refusal;
        }
        int left = m - Seen.lastMinute(shelves, shelf);
        if (left < 0) {
            return STATE;
        }
        ways.lay(wall, laws);
        if (Seen.firstUnlikely(shelves, shelf, ways) != NOT) {
            return 0;
        }
        if (shelves.sizeOf(shelf) == 0) {
            return place == -1 ? wall.placesNow() : 1;
        }
        ways.spread(Seen.lastPlace(shelves, shelf), Ways.NO_CROSSING);
        int within = Math.min(left, Ways.NONE - 1);
        if (place == -1) {
            return ways.countWithin(within);
        }
        return ways.minutes(place) <= within ? 1 : 0;
    }

    public int drawn(int place, int seed, int n, int what) {
        if (!wall.hasPlace(place) || n < 1 || n > 200 || what < 0 || what > 1) {
            return BAD;
        }
        ways.lay(wall, laws);
        int last = ways.walk(place, seed, n);
        return what == 0 ? last : ways.countWalked();
    }

    // ---- in deed

    public int go(int place) {
        if (!wall.hasPlace(place)) {
            return BAD;
        }
        if (!wall.hasPlace(deeds.place)) {
            return NOT;
        }
        ways.lay(wall, laws);
        ways.spread(deeds.place, Ways.NO_CROSSING);
        int minutes = ways.minutes(place);
        if (minutes >= Ways.NONE) {
            return NOT;
        }
        deeds.place = place;
        deeds.minutes += minutes;
        deeds.goings++;
        return minutes;
    }

    public int digs() {
        if (wall.holes >= Wall.MOST_HOLES) {
            return FULL;
        }
        if (!wall.hasPlace(deeds.place)) {
            return STATE;
        }
        deeds.minutes += 60;
        deeds.dug++;
        return wall.addHole(deeds.place / 2);
    }

    public int turn(int hole, int open) {
        if (!wall.has(Wall.HOLE_OPEN, hole) || open < 0 || open > 1) {
            return BAD;
        }
        if (!wall.hasPlace(deeds.place) || wall.value(Wall.HOLE_YARD, hole) != deeds.place / 2) {
            return STATE;
        }
        int before = wall.value(Wall.HOLE_OPEN, hole);
        wall.set(Wall.HOLE_OPEN, hole, open);
        deeds.minutes++;
        return before;
    }

    public int led(int what) {
        switch (what) {
            case 0: return deeds.minutes;
            case 1: return deeds.goings;
            case 2: return deeds.dug;
            case 3: return deeds.place;
            default: return BAD;
        }
    }

    public int image() {
        deedsInImage.become(deeds);
        debtsInImage.become(debts);
        imageKept = true;
        return deeds.minutes;
    }

    public int back() {
        if (!imageKept) {
            return STATE;
        }
        deeds.become(deedsInImage);
        debts.become(debtsInImage);
        return deeds.minutes;
    }

    public int undo() {
        return changes.takeBack(wall) ? changes.done : STATE;
    }

    public int redo() {
        return changes.doAgain(wall) ? changes.kept - changes.done : STATE;
    }

    // ---- acts, shelves

    public int body(int kind) {
        if (!Bodies.hasKind(kind)) {
            return BAD;
        }
        return bodies.size >= Bodies.MOST ? FULL : bodies.add(kind);
    }

    public int act(int body, int act, int x) {
        return bodies.perform(body, act, x);
    }

    public int trace(int i) {
        return i >= 0 && i < bodies.tracedNow() ? bodies.traced(i) : BAD;
    }

    public int keep(int shelf, int body) {
        if (!Shelves.has(shelf) || body != -1 && !bodies.has(body)) {
            return BAD;
        }
        if (body == -1) {
            shelves.clear(shelf);
        } else {
            shelves.holdBrick(shelf, body);
        }
        return 1;
    }

    public int row(int shelf, int sort, int n) {
        if (!Shelves.has(shelf) || sort < Shelves.BYTES || sort > Shelves.BOOLEANS || n > Shelves.MOST_ELEMENTS) {
            return BAD;
        }
        if (n < 0) {
            return BELOW_ZERO;
        }
        shelves.holdRow(shelf, sort, n);
        return 1;
    }

    public int put(int shelf, int i, long v) {
        int refusal = shelves.refusalOfElement(shelf, i);
        if (refusal != 0) {
            return refusal;
        }
        shelves.set(shelf, i, v);
        return 1;
    }

    public long element(int shelf, int i) {
        return shelves.refusalOfElement(shelf, i) != 0 ? Long.MIN_VALUE : shelves.get(shelf, i);
    }

    public int shift(int shelf, int i, int other, int j, int n) {
        if (!Shelves.has(shelf) || !Shelves.has(other)) {
            return BAD;
        }
        if (shelves.isEmpty(shelf) || shelves.isEmpty(other)) {
            return NOTHING;
        }
        if (!shelves.holdRowsAlike(shelf, other)) {
            return OTHER_KIND;
        }
        if (n < 0 || !shelves.hasElements(shelf, i, n) || !shelves.hasElements(other, j, n)) {
            return NO_PLACE;
        }
        shelves.copy(shelf, i, other, j, n);
        return n;
    }

    public int taken(int shelf, int k) {
        if (!Shelves.has(shelf) || !Bodies.hasKind(k)) {
            return BAD;
        }
        if (shelves.isEmpty(shelf)) {
            return NOTHING;
        }
        int kind = shelves.holdsBrick(shelf) ? bodies.kindOf(shelves.brickOn(shelf)) : -1;
        return Bodies.isUnder(kind, k) ? kind : OTHER_KIND;
    }

    public int count(int what) {
        switch (what) {
            case 0: return wall.holes;
            case 1: return wall.lanes;
            case 2: return laws.fed;
            case 3: return changes.done;
            case 4: return bodies.size;
            case 5: return bodies.ran;
            default: return BAD;
        }
    }

    // ---- what the calls share

    private boolean arePlaces(int ab) {
        return ab >= 0 && wall.hasPlace(ab / 100) && wall.hasPlace(ab % 100);
    }

    private boolean areYards(int ab) {
        return ab >= 0 && wall.hasYard(ab / 100) && wall.hasYard(ab % 100);
    }

    private static boolean areOwners(int ab) {
        return ab >= 0 && Debts.hasOwner(ab / 10) && Debts.hasOwner(ab % 10) && ab / 10 != ab % 10;
    }

    private int upwardAt(int yard, int minute) {
        return turningAt(yard + minute);
    }

    private int downwardAt(int yard, int minute) {
        return turningAt(2 * (wall.yardsNow() - 1) - yard + minute);
    }

    /** Up and down again is one round of twice the wall less its ends: where one is who has paced so far in it. */
    private int turningAt(int paced) {
        int last = wall.yardsNow() - 1;
        int inRound = last > 0 ? paced % (2 * last) : 0;
        return inRound <= last ? inRound : 2 * last - inRound;
    }

    private void change(int what, int number, int v) {
        int before = wall.value(what, number);
        if (before != v) {
            changes.note(what, number, before, v);
            wall.set(what, number, v);
        }
    }

    /** A YARD's three numbers are looked at before the first is taken: a YARD comes whole or not at all. */
    private boolean takeYard(int shelf, long i, int yard) {
        if (yard >= Wall.MOST_YARDS || i < 0 || i + 3 > shelves.sizeOf(shelf)) {
            return false;
        }
        for (int what = Wall.THICK; what <= Wall.OWNER; what++) {
            if (!Wall.allows(what, (int) shelves.get(shelf, (int) i + what))) {
                return false;
            }
        }
        for (int what = Wall.THICK; what <= Wall.OWNER; what++) {
            change(what, yard, (int) shelves.get(shelf, (int) i + what));
        }
        return true;
    }

    /** All numbers of the wall, each by what it is (as mend() and of() count that) and whose. */
    private static final class Wall {
        static final int THICK = 0, WARM = 1, OWNER = 2, HOLE_OPEN = 3, DEEP = 4, LANE_OPEN = 5, WIDE = 6, ROUND = 7;
        static final int LONG = 8, TELLS = 9, COLD = 10, RATE = 11, HOLE_YARD = 12, LANE_FROM = 13, LANE_TO = 14;
        static final int MOST_YARDS = 30, MOST_PLACES = 60, MOST_HOLES = 12, MOST_LANES = 12;
        private static final int[] LEAST = {1, 0, -1, 0, 1, 0, 1, 0, 2, 1, 0, 0};
        private static final int[] GREATEST = {9, 99, 5, 1, 9, 1, 9, 99, 30, 30, 9, 99};
        private static final int[] AT_FIRST = {4, 50, -1, 1, 1, 1, 1, 2, 12, 3, 1, 3, 0, 0, 0};

        private final int[][] numbers = new int[AT_FIRST.length][MOST_YARDS];
        int holes;
        int lanes;

        Wall() {
            for (int what = 0; what < AT_FIRST.length; what++) {
                Arrays.fill(numbers[what], AT_FIRST[what]);
            }
        }

        private int howMany(int what) {
            switch (what) {
                case THICK: case WARM: case OWNER: return MOST_YARDS;
                case HOLE_OPEN: case DEEP: case HOLE_YARD: return holes;
                case LANE_OPEN: case WIDE: case LANE_FROM: case LANE_TO: return lanes;
                case ROUND: return 2;
                case LONG: case TELLS: case COLD: case RATE: return 1;
                default: return 0;
            }
        }

        boolean has(int what, int number) {
            return number >= 0 && number < howMany(what);
        }

        static boolean allows(int what, int v) {
            return what >= 0 && what < LEAST.length && v >= LEAST[what] && v <= GREATEST[what];
        }

        int value(int what, int number) {
            return has(what, number) ? numbers[what][number] : 0;
        }

        void set(int what, int number, int v) {
            if (has(what, number)) {
                numbers[what][number] = v;
            }
        }

        int addHole(int yard) {
            if (holes < MOST_HOLES) {
                holes++;
                set(HOLE_YARD, holes - 1, yard);
            }
            return holes - 1;
        }

        int addLane(int from, int to) {
            if (lanes < MOST_LANES) {
                lanes++;
                set(LANE_FROM, lanes - 1, from);
                set(LANE_TO, lanes - 1, to);
            }
            return lanes - 1;
        }

        int yardsNow() {
            return numbers[LONG][0];
        }

        int placesNow() {
            return 2 * yardsNow();
        }

        boolean hasYard(int yard) {
            return yard >= 0 && yard < yardsNow();
        }

        boolean hasPlace(int place) {
            return place >= 0 && place < placesNow();
        }

        boolean isHoleOpen(int hole) {
            return value(HOLE_OPEN, hole) == 1 && hasYard(value(HOLE_YARD, hole));
        }

        boolean isLaneOpen(int lane) {
            return value(LANE_OPEN, lane) == 1 && hasPlace(value(LANE_FROM, lane)) && hasPlace(value(LANE_TO, lane));
        }

        boolean hasOpenHole(int yard) {
            for (int h = 0; h < holes; h++) {
                if (value(HOLE_YARD, h) == yard && isHoleOpen(h)) {
                    return true;
                }
            }
            return false;
        }

        boolean isWarmest(int yard) {
            int warm = value(WARM, yard);
            return (yard == 0 || warm > value(WARM, yard - 1))
                && (yard == yardsNow() - 1 || warm > value(WARM, yard + 1));
        }
    }

    /** The CHANGES that can be UNDONE (the first ones, as they came) and behind them those that can be DONE AGAIN. */
    private static final class Changes {
        private static final int MOST = 40;
        private final int[] whats = new int[MOST];
        private final int[] numbers = new int[MOST];
        private final int[] befores = new int[MOST];
        private final int[] afters = new int[MOST];
        int done;
        int kept;

        void note(int what, int number, int before, int after) {
            if (done >= MOST) {
                forgetFirst();
            }
            whats[done] = what;
            numbers[done] = number;
            befores[done] = before;
            afters[done] = after;
            done++;
            kept = done;
        }

        private void forgetFirst() {
            System.arraycopy(whats, 1, whats, 0, MOST - 1);
            System.arraycopy(numbers, 1, numbers, 0, MOST - 1);
            System.arraycopy(befores, 1, befores, 0, MOST - 1);
            System.arraycopy(afters, 1, afters, 0, MOST - 1);
            done = MOST - 1;
        }

        boolean takeBack(Wall wall) {
            if (done <= 0) {
                return false;
            }
            done--;
            wall.set(whats[done], numbers[done], befores[done]);
            return true;
        }

        boolean doAgain(Wall wall) {
            if (done >= kept) {
                return false;
            }
            wall.set(whats[done], numbers[done], afters[done]);
            done++;
            return true;
        }
    }

    /**
     * THE TAPE and THE LAW. A TEXT is kept as signs in the order in which they are worked out, operands ahead:
     * a number as itself, a NAME as -1 less its place in NAMES, all else as its byte below 0.
     */
    private static final class Law {
        private static final int MOST_BYTES = 120, MOST_DIGITS = 4, MOST_OPEN = 6, LEVELS = 5, COMPARISONS = 2;
        private static final String NAMES = "twosyd";
        private static final int IF = -'?', LINE_END = -';', NEGATED = -'~', DENIED = -'!';

        private final int[] tape = new int[MOST_BYTES];
        private int[] signs = new int[MOST_BYTES + 1];
        private int[] draft = new int[MOST_BYTES + 1];
        private final int[] named = new int[NAMES.length()];
        private final int[] stack = new int[MOST_BYTES];
        private int signsNow;
        private int drafted;
        private int height;
        private int at;
        private int fault;
        int fed;

        boolean takeByte(int letter) {
            if (fed >= MOST_BYTES) {
                return false;
            }
            tape[fed] = letter;
            fed++;
            return true;
        }

        /** Makes THE TAPE the law and empties it: the FAULT, or -1 without one. */
        int readTape() {
            at = 0;
            fault = -1;
            drafted = 0;
            readLine();
            for (int i = 0; i < MOST_BYTES && skip(";") != 0; i++) {
                readLine();
            }
            if (at < fed) {
                fail();
            }
            fed = 0;
            if (fault < 0) {
                takeDraft();
            }
            return fault;
        }

        private void takeDraft() {
            int[] old = signs;
            signs = draft;
            draft = old;
            signsNow = drafted;
        }

        private void readLine() {
            readLevel(0, 0);
            if (skip("?") != 0) {
                write(IF);
                readLevel(0, 0);
            }
            write(LINE_END);
        }

        private static String signsOfLevel(int level) {
            switch (level) {
                case 0: return "|";
                case 1: return "&";
                case COMPARISONS: return "<=>";
                case 3: return "+-";
                default: return "*/%";
            }
        }

        /** The signs that bind weakest are those of level 0; behind the last level stands an O. */
        private void readLevel(int level, int open) {
            if (level >= LEVELS) {
                readOperand(open);
                return;
            }
            readLevel(level + 1, open);
            int most = level == COMPARISONS ? 1 : MOST_BYTES;
            int sign = skipBelow(0, most, level);
            for (int i = 0; i < most && sign != 0; i++) {
                readLevel(level + 1, open);
                write(-sign);
                sign = skipBelow(i + 1, most, level);
            }
        }

        private int skipBelow(int read, int most, int level) {
            return read < most ? skip(signsOfLevel(level)) : 0;
        }

        private void readOperand(int open) {
            int name = skip(NAMES);
            if (name != 0) {
                write(-1 - NAMES.indexOf((char) name));
                return;
            }
            if (isDigitAhead()) {
                readNumber();
                return;
            }
            int sign = open < MOST_OPEN ? skip("(!-") : 0;
            if (sign == 0) {
                fail();
            } else if (sign == '(') {
                readLevel(0, open + 1);
                if (skip(")") == 0) {
                    fail();
                }
            } else {
                readOperand(open + 1);
                write(sign == '-' ? NEGATED : DENIED);
            }
        }

        private boolean isDigitAhead() {
            return fault < 0 && at < fed && tape[at] >= '0' && tape[at] <= '9';
        }

        private void readNumber() {
            int number = 0;
            for (int i = 0; i < MOST_DIGITS && isDigitAhead(); i++) {
                number = number * 10 + tape[at] - '0';
                at++;
            }
            write(number);
        }

        /** Goes on past the next byte if it is one of these: that byte, or 0. */
        private int skip(String these) {
            if (fault >= 0 || at >= fed || these.indexOf((char) tape[at]) < 0) {
                return 0;
            }
            at++;
            return tape[at - 1];
        }

        private void fail() {
            if (fault < 0) {
                fault = at;
            }
        }

        private void write(int sign) {
            if (drafted < draft.length) {
                draft[drafted] = sign;
                drafted++;
            }
        }

        /** How long it takes from a PLACE to the next YARD's, upward (1) or downward (0). */
        int minutes(Wall wall, int yard, int side, int up) {
            if (signsNow == 0) {
                return 1;
            }
            named[0] = wall.value(Wall.THICK, yard);
            named[1] = wall.value(Wall.WARM, yard);
            named[2] = wall.value(Wall.OWNER, yard);
            named[3] = side;
            named[4] = yard;
            named[5] = up;
            return Math.max(1, Math.min(99, workOut()));
        }

        private int workOut() {
            height = 0;
            boolean passedOver = false;
            for (int i = 0; i < signsNow && i < signs.length; i++) {
                int sign = signs[i];
                if (sign == LINE_END) {
                    if (!passedOver) {
                        return pop();
                    }
                    passedOver = false;
                } else if (sign == IF) {
                    passedOver = pop() == 0;
                } else if (!passedOver) {
                    workOutSign(sign);
                }
            }
            return 0;
        }

        private void workOutSign(int sign) {
            if (sign >= 0) {
                push(sign);
            } else if (sign >= -named.length) {
                push(named[-1 - sign]);
            } else if (sign == NEGATED) {
                push(-pop());
            } else if (sign == DENIED) {
                push(truth(pop() == 0));
            } else {
                int second = pop();
                push(joined(-sign, pop(), second));
            }
        }

        private static int joined(int sign, int a, int b) {
            switch (sign) {
                case '|': return truth(a != 0 || b != 0);
                case '&': return truth(a != 0 && b != 0);
                case '<': return truth(a < b);
                case '=': return truth(a == b);
                case '>': return truth(a > b);
                case '+': return a + b;
                case '-': return a - b;
                case '*': return a * b;
                case '/': return b == 0 ? 0 : a / b;
                default: return b == 0 ? 0 : a % b;
            }
        }

        private static int truth(boolean so) {
            return so ? 1 : 0;
        }

        private void push(int v) {
            if (height < stack.length) {
                stack[height] = v;
                height++;
            }
        }

        private int pop() {
            if (height <= 0) {
                return 0;
            }
            height--;
            return stack[height];
        }
    }

    /** The STEPS as the wall stands, and how many minutes they come to from a PLACE or to one. */
    private static final class Ways {
        /** Stands above every WAY: none has more than 59 STEPS of 99 minutes. */
        static final int NONE = 9999;
        static final int NO_CROSSING = -1;
        private static final int PLACES = Wall.MOST_PLACES;
        private static final int MOST_STEPS = 2 * PLACES + 2 * Wall.MOST_HOLES + 2 * Wall.MOST_LANES + 4;

        private final int[] froms = new int[MOST_STEPS];
        private final int[] tos = new int[MOST_STEPS];
        private final int[] costs = new int[MOST_STEPS];
        /** The HOLE of a STEP, or 12 and the LANE. */
        private final int[] crossings = new int[MOST_STEPS];
        private final int[] minutes = new int[PLACES];
        private final int[] all = new int[PLACES * PLACES];
        /** 1 for each PLACE to which there is a STEP, or in which one was; else 0. */
        private final int[] ahead = new int[PLACES];
        private final int[] walked = new int[PLACES];
        private int steps;
        private int places;

        void lay(Wall wall, Law law) {
            steps = 0;
            places = Math.min(wall.placesNow(), PLACES);
            layAlong(wall, law);
            for (int h = 0; h < wall.holes; h++) {
                if (wall.isHoleOpen(h)) {
                    int place = 2 * wall.value(Wall.HOLE_YARD, h);
                    addBothWays(place, place + 1, wall.value(Wall.DEEP, h), h);
                }
            }
            for (int l = 0; l < wall.lanes; l++) {
                if (wall.isLaneOpen(l)) {
                    addBothWays(wall.value(Wall.LANE_FROM, l), wall.value(Wall.LANE_TO, l),
                        wall.value(Wall.WIDE, l), Wall.MOST_HOLES + l);
                }
            }
            layRound(0, wall.value(Wall.ROUND, 0));
            layRound(places - 2, wall.value(Wall.ROUND, 1));
        }

        /** Upward ones first and in their order, downward ones in theirs: so spreading goes far in few sweeps. */
        private void layAlong(Wall wall, Law law) {
            for (int place = 0; place < places - 2; place++) {
                add(place, place + 2, law.minutes(wall, place / 2, place % 2, 1), NO_CROSSING);
            }
            for (int place = places - 1; place >= 2; place--) {
                add(place, place - 2, law.minutes(wall, place / 2, place % 2, 0), NO_CROSSING);
            }
        }

        private void layRound(int place, int round) {
            if (round > 0) {
                addBothWays(place, place + 1, round, NO_CROSSING);
            }
        }

        private void addBothWays(int a, int b, int cost, int crossing) {
            add(a, b, cost, crossing);
            add(b, a, cost, crossing);
        }

        private void add(int from, int to, int cost, int crossing) {
            if (steps < MOST_STEPS && isThere(from) && isThere(to)) {
                froms[steps] = from;
                tos[steps] = to;
                costs[steps] = cost;
                crossings[steps] = crossing;
                steps++;
            }
        }

        boolean isThere(int place) {
            return place >= 0 && place < places;
        }

        int minutes(int place) {
            return isThere(place) ? minutes[place] : NONE;
        }

        private void startAt(int place) {
            Arrays.fill(minutes, NONE);
            if (isThere(place)) {
                minutes[place] = 0;
            }
        }

        /** Finds the minutes from a PLACE to each, without a HOLE or LANE. */
        void spread(int place, int without) {
            startAt(place);
            boolean nearer = true;
            for (int sweep = 0; sweep < PLACES && nearer; sweep++) {
                nearer = false;
                for (int s = 0; s < steps; s++) {
                    int then = minutes[froms[s]] + costs[s];
                    boolean counts = without == NO_CROSSING || crossings[s] != without;
                    if (counts && then < minutes[tos[s]]) {
                        minutes[tos[s]] = then;
                        nearer = true;
                    }
                }
            }
        }

        /** Finds the minutes to a PLACE from each. */
        void spreadBack(int place) {
            startAt(place);
            boolean nearer = true;
            for (int sweep = 0; sweep < PLACES && nearer; sweep++) {
                nearer = false;
                for (int s = steps - 1; s >= 0; s--) {
                    int then = minutes[tos[s]] + costs[s];
                    if (then < minutes[froms[s]]) {
                        minutes[froms[s]] = then;
                        nearer = true;
                    }
                }
            }
        }

        /** Of the WAY that spreadBack() found. */
        int firstStep(int place) {
            int first = places;
            for (int s = 0; s < steps; s++) {
                if (froms[s] == place && minutes[tos[s]] + costs[s] == minutes[place]) {
                    first = Math.min(first, tos[s]);
                }
            }
            return isThere(first) ? first : NOT;
        }

        int farthest() {
            int farthest = -1, most = -1;
            for (int place = 0; place < places; place++) {
                if (minutes[place] < NONE && minutes[place] > most) {
                    most = minutes[place];
                    farthest = place;
                }
            }
            return farthest;
        }

        int countWithin(int most) {
            int sum = 0;
            for (int place = 0; place < places; place++) {
                sum += minutes[place] <= most ? 1 : 0;
            }
            return sum;
        }

        int yardsWithin(int side, int most) {
            int bits = 0;
            for (int place = side; place < places; place += 2) {
                bits |= minutes[place] <= most ? 1 << place / 2 : 0;
            }
            return bits;
        }

        void spreadFromAll() {
            for (int place = 0; place < places; place++) {
                spread(place, NO_CROSSING);
                System.arraycopy(minutes, 0, all, place * PLACES, PLACES);
            }
        }

        int widestOfAll() {
            int widest = 0;
            for (int from = 0; from < places; from++) {
                for (int to = 0; to < places; to++) {
                    widest = Math.max(widest, all[from * PLACES + to]);
                }
            }
            return widest;
        }

        /** A WAY takes a new HOLE at most once, so the old WAYS tell it. What is not below enough is not worked out. */
        int widestWithHole(int yard, int enough) {
            int widest = 0;
            for (int from = 0; from < places && widest < enough; from++) {
                for (int to = 0; to < places; to++) {
                    widest = Math.max(widest, withHole(from, to, 2 * yard));
                }
            }
            return Math.min(widest, NONE);
        }

        private int withHole(int from, int to, int place) {
            if (!isThere(place) || !isThere(place + 1)) {
                return NONE;
            }
            int inward = all[from * PLACES + place] + 1 + all[(place + 1) * PLACES + to];
            int outward = all[from * PLACES + place + 1] + 1 + all[place * PLACES + to];
            return Math.min(all[from * PLACES + to], Math.min(inward, outward));
        }

        /** Walks by draws: the last PLACE. */
        int walk(int start, int seed, int n) {
            Arrays.fill(walked, 0);
            int place = start, z = seed;
            for (int i = 0; i < n && isThere(place); i++) {
                walked[place] = 1;
                z = z * 1103515245 + 12345;
                int many = lookAhead(place);
                place = many > 0 ? aheadAt((z >>> 8) % many) : place;
            }
            if (isThere(place)) {
                walked[place] = 1;
            }
            return place;
        }

        private int lookAhead(int place) {
            Arrays.fill(ahead, 0);
            int many = 0;
            for (int s = 0; s < steps; s++) {
                if (froms[s] == place && ahead[tos[s]] == 0) {
                    ahead[tos[s]] = 1;
                    many++;
                }
            }
            return many;
        }

        private int aheadAt(int which) {
            int left = which;
            for (int place = 0; place < places; place++) {
                if (ahead[place] == 1) {
                    if (left == 0) {
                        return place;
                    }
                    left--;
                }
            }
            return -1;
        }

        int countWalked() {
            int sum = 0;
            for (int place = 0; place < places; place++) {
                sum += walked[place];
            }
            return sum;
        }
    }

    /** NEWS goes along both SIDES alike, so it needs no other yards than those of its one knock. */
    private static final class News {
        static int hearing(Wall wall, int from, int to) {
            int a = from / 2, b = to / 2, tells = wall.value(Wall.TELLS, 0);
            if (from % 2 == to % 2) {
                return Math.abs(a - b) * tells;
            }
            int least = Math.abs(a - b) * tells + wall.value(Wall.THICK, a);
            for (int y = 0; y < wall.yardsNow(); y++) {
                int along = Math.abs(a - y) + Math.abs(y - b);
                least = Math.min(least, along * tells + wall.value(Wall.THICK, y));
            }
            return least;
        }

        static int howManyHear(Wall wall, int from, int m) {
            int sum = 0;
            for (int place = 0; place < wall.placesNow(); place++) {
                sum += hearing(wall, from, place) <= m ? 1 : 0;
            }
            return sum;
        }

        static int lastToHear(Wall wall, int from) {
            int last = from, latest = 0;
            for (int place = 0; place < wall.placesNow(); place++) {
                int minute = hearing(wall, from, place);
                if (minute >= latest) {
                    latest = minute;
                    last = place;
                }
            }
            return last;
        }
    }

    /** The nights of FROST, one after the other. */
    private static final class Frost {
        static final int MOST_NIGHTS = 60;
        private int[] warm = new int[Wall.MOST_YARDS];
        private int[] next = new int[Wall.MOST_YARDS];
        private int yards;

        void begin(Wall wall) {
            yards = Math.min(wall.yardsNow(), Wall.MOST_YARDS);
            for (int y = 0; y < yards; y++) {
                warm[y] = wall.value(Wall.WARM, y);
            }
        }

        void pass(Wall wall) {
            int cold = wall.value(Wall.COLD, 0);
            for (int y = 0; y < yards; y++) {
                int below = y > 0 ? warm[y - 1] : warm[y];
                int above = y + 1 < yards ? warm[y + 1] : warm[y];
                int lost = cold * ((9 - wall.value(Wall.THICK, y)) / 3);
                next[y] = Math.max(0, (2 * warm[y] + below + above) / 4 - lost);
            }
            int[] old = warm;
            warm = next;
            next = old;
        }

        int warmth(int yard) {
            return yard >= 0 && yard < yards ? warm[yard] : 0;
        }

        int firstAtZero() {
            for (int y = 0; y < yards; y++) {
                if (warm[y] == 0) {
                    return y;
                }
            }
            return -1;
        }
    }

    /** Bricks lent by each OWNER to each. */
    private static final class Debts {
        static final int OWNERS = 6, MOST_LENT = 999;
        private final int[] lent = new int[OWNERS * OWNERS];
        private final int[] cleared = new int[OWNERS * OWNERS];

        static boolean hasOwner(int owner) {
            return owner >= 0 && owner < OWNERS;
        }

        void become(Debts other) {
            System.arraycopy(other.lent, 0, lent, 0, lent.length);
        }

        int lent(int a, int b) {
            return hasOwner(a) && hasOwner(b) ? lent[a * OWNERS + b] : 0;
        }

        void set(int a, int b, int n) {
            if (hasOwner(a) && hasOwner(b)) {
                lent[a * OWNERS + b] = n;
            }
        }

        int owed(int one) {
            int sum = 0;
            for (int other = 0; other < OWNERS; other++) {
                sum += lent(other, one) - lent(one, other);
            }
            return sum;
        }

        int lentWhenCleared(int a, int b) {
            System.arraycopy(lent, 0, cleared, 0, lent.length);
            boolean found = true;
            // each ring taken off ends one debt at least
            for (int i = 0; i < cleared.length && found; i++) {
                found = clearFirstRing();
            }
            return hasOwner(a) && hasOwner(b) ? cleared[a * OWNERS + b] : 0;
        }

        private boolean clearFirstRing() {
            for (int a = 0; a < OWNERS; a++) {
                for (int b = 0; b < OWNERS; b++) {
                    for (int c = 0; c < OWNERS; c++) {
                        if (clearRing(a * OWNERS + b, b * OWNERS + c, c * OWNERS + a)) {
                            return true;
                        }
                    }
                }
            }
            return false;
        }

        /** Nobody lends to himself, so three debts above 0 are those of three unlike OWNERS. */
        private boolean clearRing(int ab, int bc, int ca) {
            int least = Math.min(cleared[ab], Math.min(cleared[bc], cleared[ca]));
            if (least <= 0) {
                return false;
            }
            cleared[ab] -= least;
            cleared[bc] -= least;
            cleared[ca] -= least;
            return true;
        }
    }

    /** Where one stands, and what LED tells. */
    private static final class Deeds {
        int place;
        int minutes;
        int goings;
        int dug;

        void become(Deeds other) {
            place = other.place;
            minutes = other.minutes;
            goings = other.goings;
            dug = other.dug;
        }
    }

    /** Where a thief was SEEN: a ROW of shorts, by twos a PLACE and a minute. */
    private static final class Seen {
        static int firstUnlikely(Shelves shelves, int shelf, Ways ways) {
            int size = shelves.sizeOf(shelf);
            for (int i = 0; i < size; i += 2) {
                if (i + 1 >= size || !isAsSaid(shelves, shelf, i, ways) || i > 0 && !isInTime(shelves, shelf, i, ways)) {
                    return i / 2;
                }
            }
            return NOT;
        }

        private static boolean isAsSaid(Shelves shelves, int shelf, int i, Ways ways) {
            long minute = shelves.get(shelf, i + 1);
            return ways.isThere((int) shelves.get(shelf, i)) && minute >= 0 && minute <= LAST_MINUTE;
        }

        /** A minute less than the one ahead leaves less than none for the WAY, so this refuses it, too. */
        private static boolean isInTime(Shelves shelves, int shelf, int i, Ways ways) {
            long left = shelves.get(shelf, i + 1) - shelves.get(shelf, i - 1);
            ways.spread((int) shelves.get(shelf, i - 2), Ways.NO_CROSSING);
            int minutes = ways.minutes((int) shelves.get(shelf, i));
            return minutes < Ways.NONE && minutes <= left;
        }

        /** The last two may lack its end, or there may be none: then it is 0, than which no minute is less. */
        static int lastMinute(Shelves shelves, int shelf) {
            int size = shelves.sizeOf(shelf);
            return size % 2 == 0 ? (int) shelves.get(shelf, size - 1) : 0;
        }

        static int lastPlace(Shelves shelves, int shelf) {
            return (int) shelves.get(shelf, shelves.sizeOf(shelf) / 2 * 2 - 2);
        }
    }

    /** BRICKS of KINDS, their ACTS, and THE TRACE of the latest one. */
    private static final class Bodies {
        static final int MOST = 50;
        private static final int STANDS = 0, BEARS = 1, KNOCKS = 2, TELLS = 3;
        private static final int MOST_TRACED = 24, MOST_DEEP = 40;
        /** Which KIND each is under. */
        private static final int[] ABOVE = {-1, 0, 0, 2, 1, 3, 0, 4};
        /** Each KIND's own bodies of the four ACTS; what an interface of BRICK has stands at BRICK; 0: none. */
        private static final int[] OWN = {
            1, 10, 11, 2,
            20, 0, 0, 0,
            0, 30, 0, 0,
            0, 41, 40, 0,
            0, 0, 50, 0,
            0, 0, 0, 60,
            70, 0, 0, 0,
            0, 80, 0, 81};

        private final int[] kinds = new int[MOST];
        private final int[] trace = new int[MOST_TRACED];
        int size;
        int ran;

        static boolean hasKind(int kind) {
            return kind >= 0 && kind < ABOVE.length;
        }

        boolean has(int brick) {
            return brick >= 0 && brick < size && brick < MOST;
        }

        int kindOf(int brick) {
            return has(brick) ? kinds[brick] : -1;
        }

        static int kindAbove(int kind) {
            return hasKind(kind) ? ABOVE[kind] : -1;
        }

        static boolean isUnder(int kind, int top) {
            int k = kind;
            for (int i = 0; i < ABOVE.length && hasKind(k); i++) {
                if (k == top) {
                    return true;
                }
                k = kindAbove(k);
            }
            return false;
        }

        int add(int kind) {
            if (size < MOST) {
                kinds[size] = kind;
                size++;
            }
            return size - 1;
        }

        int tracedNow() {
            return Math.min(ran, MOST_TRACED);
        }

        int traced(int i) {
            return i >= 0 && i < tracedNow() ? trace[i] : 0;
        }

        int perform(int brick, int act, int x) {
            ran = 0;
            if (!has(brick) || act < STANDS || act > TELLS) {
                return 0;
            }
            return run(brick, kindOf(brick), act, x, 0);
        }

        /** Runs the body of the KIND, or of the next one above it that has one. */
        private int run(int brick, int kind, int act, int x, int depth) {
            int k = kind;
            for (int i = 0; i < ABOVE.length && hasKind(k) && OWN[4 * k + act] == 0; i++) {
                k = kindAbove(k);
            }
            if (!hasKind(k) || depth >= MOST_DEEP) {
                return 0;
            }
            note(OWN[4 * k + act]);
            return runBody(OWN[4 * k + act], brick, kindAbove(k), x, depth + 1);
        }

        private int runBody(int body, int brick, int above, int x, int depth) {
            int own = kindOf(brick);
            switch (body) {
                case 1: return x + brick;
                case 2: return run(brick, own, BEARS, x, depth) - run(brick, own, KNOCKS, 1, depth);
                case 10: return run(brick, own, STANDS, x, depth) * 2;
                case 11: return x ^ brick;
                case 20: return run(brick, above, STANDS, x, depth) + 3;
                case 30: return -run(brick, above, BEARS, x, depth);
                case 40: return run(brick, above, KNOCKS, x, depth) * 3;
                case 41: return run(brick, above, BEARS, x + 1, depth);
                case 50: return run(brick, above, KNOCKS, x, depth) - run(brick, own, STANDS, 2, depth);
                case 60: return run(brick, above, TELLS, x, depth) ^ 5;
                case 70: return run(brick, above, STANDS, x, depth) * 2;
                case 80: return run(brick, above, BEARS, x, depth) + run(brick, own, KNOCKS, 2, depth);
                case 81: return run(brick, above, TELLS, x, depth) - 1;
                default: return 0;
            }
        }

        private void note(int body) {
            if (ran < MOST_TRACED) {
                trace[ran] = body;
            }
            ran++;
        }
    }

    /** What the SHELVES hold: nothing, a BRICK, or a ROW, whose elements are kept as longs of their sort's bits. */
    private static final class Shelves {
        static final int BYTES = 0, SHORTS = 1, INTS = 2, BOOLEANS = 4, MOST_ELEMENTS = 60;
        private static final int SHELVES = 6, EMPTY = -1, A_BRICK = -2;

        /** EMPTY, A_BRICK, or the sort of the ROW. */
        private final int[] holds = new int[SHELVES];
        private final int[] bricks = new int[SHELVES];
        private final int[] sizes = new int[SHELVES];
        private final long[][] rows = new long[SHELVES][MOST_ELEMENTS];

        Shelves() {
            Arrays.fill(holds, EMPTY);
        }

        static boolean has(int shelf) {
            return shelf >= 0 && shelf < SHELVES;
        }

        boolean isEmpty(int shelf) {
            return !has(shelf) || holds[shelf] == EMPTY;
        }

        boolean holdsBrick(int shelf) {
            return has(shelf) && holds[shelf] == A_BRICK;
        }

        boolean holdsRow(int shelf, int sort) {
            return has(shelf) && holds[shelf] == sort;
        }

        boolean holdRowsAlike(int shelf, int other) {
            return sortOf(shelf) >= 0 && sortOf(shelf) == sortOf(other);
        }

        private int sortOf(int shelf) {
            return has(shelf) ? holds[shelf] : EMPTY;
        }

        int brickOn(int shelf) {
            return holdsBrick(shelf) ? bricks[shelf] : -1;
        }

        int sizeOf(int shelf) {
            return sortOf(shelf) >= 0 ? sizes[shelf] : 0;
        }

        boolean hasElements(int shelf, int i, int n) {
            return i >= 0 && n >= 0 && (long) i + n <= sizeOf(shelf);
        }

        int refusalOfRow(int shelf, int sort) {
            if (!has(shelf)) {
                return BAD;
            }
            if (isEmpty(shelf)) {
                return NOTHING;
            }
            return holdsRow(shelf, sort) ? 0 : OTHER_KIND;
        }

        int refusalOfElement(int shelf, int i) {
            int refusal = refusalOfRow(shelf, sortOf(shelf));
            if (refusal != 0) {
                return refusal;
            }
            if (holdsBrick(shelf)) {
                return OTHER_KIND;
            }
            return hasElements(shelf, i, 1) ? 0 : NO_PLACE;
        }

        void clear(int shelf) {
            if (has(shelf)) {
                holds[shelf] = EMPTY;
            }
        }

        void holdBrick(int shelf, int brick) {
            if (has(shelf)) {
                holds[shelf] = A_BRICK;
                bricks[shelf] = brick;
            }
        }

        void holdRow(int shelf, int sort, int n) {
            if (has(shelf)) {
                holds[shelf] = sort;
                sizes[shelf] = Math.max(0, Math.min(n, MOST_ELEMENTS));
                Arrays.fill(rows[shelf], 0);
            }
        }

        long get(int shelf, int i) {
            return hasElements(shelf, i, 1) ? rows[shelf][i] : 0;
        }

        void set(int shelf, int i, long v) {
            if (hasElements(shelf, i, 1)) {
                rows[shelf][i] = lowestBits(holds[shelf], v);
            }
        }

        private static long lowestBits(int sort, long v) {
            switch (sort) {
                case BYTES: return (byte) v;
                case SHORTS: return (short) v;
                case INTS: return (int) v;
                case BOOLEANS: return v != 0 ? 1 : 0;
                default: return v;
            }
        }

        void copy(int shelf, int i, int other, int j, int n) {
            if (hasElements(shelf, i, n) && hasElements(other, j, n)) {
                System.arraycopy(rows[shelf], i, rows[other], j, n);
            }
        }
    }
}
