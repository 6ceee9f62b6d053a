import java.io.IOException;

/** The boundary cases of acts and shelves, sentence by sentence. */
public final class EdgesOfShelvesTest extends Trial {
    private static final int[] NO_SHELVES = {-1, 6, 7, MAX, MIN};
    private static final int BRICK = 0, BEND = 1, HOLE = 2, CUPBOARD = 3, CORNER = 4, TUNNEL = 5, IVY = 6, END = 7;
    private static final int STANDS = 0, BEARS = 1, KNOCKS = 2, TELLS_ON = 3;

    public static void main(String[] args) throws IOException {
        new EdgesOfShelvesTest().test(args);
    }

    private void test(String[] args) throws IOException {
        read(args);
        bodiesFull();
        actRefused();
        actsOfEachKind();
        actsThatWrap();
        numbersOfBricks();
        traceRefused();
        traceOfTheLatest();
        keepRefused();
        keeping();
        rowRefused();
        rowsAtFirst();
        putRefused();
        lowestBits();
        elementRefused();
        shiftRefused();
        shiftByPlaces();
        shiftWithin();
        shiftOfEachSort();
        takenRefused();
        takenForKinds();
        countRefused();
        countsAtFirst();
        counts();
        allTried(36, 45);
        check.end();
    }

    // ---- acts

    private void bodiesFull() {
        promise(36, "A BRICK of a KIND (0 .. 7) is kept: its number. BAD, FULL.");
        fresh();
        for (int kind : new int[] {-1, 8, 9, MAX, MIN}) {
            due("kind " + kind, x.body(kind), BAD);
        }
        due("none is kept", x.count(4), 0);
        for (int n = 0; n < 50; n++) {
            due("the " + n + "th", x.body(n % 8), n);
        }
        for (int kind = 0; kind < 8; kind++) {
            due("FULL", x.body(kind), FULL);
        }
        due("BAD ahead of FULL", x.body(8), BAD);
        due("BAD ahead of FULL", x.body(-1), BAD);
        due("fifty", x.count(4), 50);
        due("the last one acts", x.act(49, STANDS, 1), 1 + 49 + 3);
        due("no fifty-first", x.act(50, STANDS, 1), 0);
    }

    private void actRefused() {
        promise(37, "An ACT (0 .. 3) of a BRICK with x. 0, and no TRACE then: no such BRICK, ACT.");
        fresh();
        due("no BRICK", x.act(0, STANDS, 5), 0);
        x.body(TUNNEL);
        for (int brick : new int[] {-1, 1, 49, 50, MAX, MIN}) {
            x.act(0, TELLS_ON, 5);
            due("BRICK " + brick, x.act(brick, TELLS_ON, 5), 0);
            due("no TRACE then", x.trace(0), BAD);
            due("none ran", x.count(5), 0);
        }
        for (int act : new int[] {-1, 4, MAX, MIN}) {
            x.act(0, TELLS_ON, 5);
            due("ACT " + act, x.act(0, act, 5), 0);
            due("no TRACE then", x.trace(0), BAD);
            due("none ran", x.count(5), 0);
        }
        due("0 with a TRACE", x.act(0, STANDS, 0), 0);
        due("one ran", x.count(5), 1);
    }

    /** BRICKS of all KINDS, each by its KIND as its number. */
    private void allKinds() {
        fresh();
        for (int kind = 0; kind < 8; kind++) {
            x.body(kind);
        }
    }

    private void acts(int kind, int act, int with, int want, int... bodies) {
        String call = "KIND " + kind + ", ACT " + act + ", x " + with;
        due(call, x.act(kind, act, with), want);
        due(call + ": how many ran", x.count(5), bodies.length);
        for (int i = 0; i < bodies.length; i++) {
            due(call + ": trace(" + i + ")", x.trace(i), bodies[i]);
        }
        due(call + ": behind THE TRACE", x.trace(bodies.length), BAD);
    }

    private void actsOfEachKind() {
        term("stands(..) and so on: the body of its own KIND, or of the next KIND above that has one; super: from the KIND above the body's on.");
        allKinds();
        acts(BRICK, STANDS, 9, 9, 1);
        acts(BRICK, BEARS, 9, 18, 10, 1);
        acts(BRICK, KNOCKS, 9, 9, 11);
        acts(BRICK, TELLS_ON, 9, 17, 2, 10, 1, 11);
        acts(BEND, STANDS, 9, 13, 20, 1);
        acts(BEND, BEARS, 9, 26, 10, 20, 1);
        acts(BEND, KNOCKS, 9, 8, 11);
        acts(BEND, TELLS_ON, 9, 26, 2, 10, 20, 1, 11);
        acts(HOLE, STANDS, 9, 11, 1);
        acts(HOLE, BEARS, 9, -22, 30, 10, 1);
        acts(HOLE, KNOCKS, 9, 11, 11);
        acts(HOLE, TELLS_ON, 9, -25, 2, 30, 10, 1, 11);
        allKinds();
        acts(CUPBOARD, STANDS, 9, 12, 1);
        acts(CUPBOARD, BEARS, 9, -26, 41, 30, 10, 1);
        acts(CUPBOARD, KNOCKS, 9, 30, 40, 11);
        acts(CUPBOARD, TELLS_ON, 9, -32, 2, 41, 30, 10, 1, 40, 11);
        // stands(x) x + 7; knocks(x) (x ^ 4) - 9
        acts(CORNER, STANDS, 9, 16, 20, 1);
        acts(CORNER, BEARS, 9, 32, 10, 20, 1);
        acts(CORNER, KNOCKS, 9, 4, 50, 11, 20, 1);
        acts(CORNER, TELLS_ON, 9, 36, 2, 10, 20, 1, 50, 11, 20, 1);
        // bears(x) -2 (x + 6); knocks(x) 3 (x ^ 5)
        acts(TUNNEL, STANDS, 9, 14, 1);
        acts(TUNNEL, BEARS, 9, -30, 41, 30, 10, 1);
        acts(TUNNEL, KNOCKS, 9, 36, 40, 11);
        acts(TUNNEL, TELLS_ON, 9, -42 ^ 5, 60, 2, 41, 30, 10, 1, 40, 11);
        allKinds();
        acts(IVY, STANDS, 9, 30, 70, 1);
        acts(IVY, BEARS, 9, 60, 10, 70, 1);
        acts(IVY, KNOCKS, 9, 15, 11);
        acts(IVY, TELLS_ON, 9, 53, 2, 10, 70, 1, 11);
        // stands(x) x + 10; knocks(x) (x ^ 7) - 12; bears(x) 2 (x + 10) - 7
        acts(END, STANDS, 9, 19, 20, 1);
        acts(END, BEARS, 9, 31, 80, 10, 20, 1, 50, 11, 20, 1);
        acts(END, KNOCKS, 9, 2, 50, 11, 20, 1);
        acts(END, TELLS_ON, 9, 36, 81, 2, 80, 10, 20, 1, 50, 11, 20, 1, 50, 11, 20, 1);
    }

    /** Twice and thrice the least and the greatest int by hand: what is cut off is 2 to the 32nd. */
    private void actsThatWrap() {
        term("ACTS with x (an int that wraps)");
        allKinds();
        due("just MAX", x.act(BEND, STANDS, MAX - 4), MAX);
        due("MAX + 1", x.act(BEND, STANDS, MAX - 3), MIN);
        due("MAX + 4 is MIN + 3", x.act(BEND, STANDS, MAX), MIN + 3);
        due("twice MAX", x.act(BRICK, BEARS, MAX), -2);
        due("twice MIN", x.act(BRICK, BEARS, MIN), 0);
        due("twice MIN less 1", x.act(BRICK, TELLS_ON, MIN), -1);
        due("less twice (MAX - 1)", x.act(HOLE, BEARS, MAX - 3), 4);
        due("twice (MIN / 2) is MIN, less it is MIN", x.act(HOLE, BEARS, MIN / 2 - 2), MIN);
        due("x + 1 of MAX: -2 (MIN + 3)", x.act(CUPBOARD, BEARS, MAX), -6);
        due("thrice (MAX ^ 3)", x.act(CUPBOARD, KNOCKS, MAX), MAX - 2 - 9);
        due("thrice (MIN ^ 3)", x.act(CUPBOARD, KNOCKS, MIN), MIN + 9);
        due("(MIN ^ 4) - 9", x.act(CORNER, KNOCKS, MIN), MAX - 4);
        due("(MIN + 6) twice", x.act(IVY, STANDS, MIN), 12);
        due("MAX ^ 7, less 12", x.act(END, KNOCKS, MAX), MAX - 7 - 12);
        due("-1 ^ 1", x.act(BEND, KNOCKS, -1), -2);
    }

    private void numbersOfBricks() {
        term("n its number");
        fresh();
        for (int n = 0; n < 50; n++) {
            x.body(BRICK);
        }
        for (int n = 0; n < 50; n++) {
            due("stands", x.act(n, STANDS, 100), 100 + n);
            due("knocks", x.act(n, KNOCKS, 100), 100 ^ n);
        }
    }

    private void traceRefused() {
        promise(38, "THE TRACE's i-th body. BAD.");
        fresh();
        for (int i : new int[] {0, 1, 23, 24, -1, MAX, MIN}) {
            due("no act yet, i " + i, x.trace(i), BAD);
        }
        allKinds();
        x.act(END, TELLS_ON, 5);
        due("the first", x.trace(0), 81);
        due("the last", x.trace(13), 1);
        for (int i : new int[] {-1, 14, 15, 23, 24, 25, MAX, MIN}) {
            due("i " + i, x.trace(i), BAD);
        }
    }

    private void traceOfTheLatest() {
        term("THE TRACE: numbers of the bodies that ran in the latest act(), as they began; the first 24 are kept.");
        allKinds();
        acts(END, TELLS_ON, 0, 2 * 10 - 7 + 6 - 1, 81, 2, 80, 10, 20, 1, 50, 11, 20, 1, 50, 11, 20, 1);
        acts(BRICK, STANDS, 0, 0, 1);
        x.go(2);
        x.body(0);
        due("no act has come since", x.trace(0), 1);
        due("no act has come since", x.count(5), 1);
    }

    // ---- shelves

    private void keepRefused() {
        promise(39, "A SHELF holds nothing (body -1), or a BRICK: 1. BAD.");
        fresh();
        due("no BRICK 0", x.keep(0, 0), BAD);
        due("nothing all the same", x.keep(0, -1), 1);
        x.body(IVY);
        for (int shelf : NO_SHELVES) {
            due("shelf " + shelf, x.keep(shelf, 0), BAD);
            due("nothing on shelf " + shelf, x.keep(shelf, -1), BAD);
        }
        x.keep(0, 0);
        for (int brick : new int[] {-2, 1, 49, 50, MAX, MIN}) {
            due("BRICK " + brick, x.keep(0, brick), BAD);
        }
        due("it holds what it held", x.taken(0, IVY), IVY);
        for (int n = 1; n < 50; n++) {
            x.body(BRICK);
        }
        due("BRICK 49", x.keep(5, 49), 1);
        due("BRICK 50", x.keep(5, 50), BAD);
    }

    private void keeping() {
        term("SHELVES 0 .. 5 each hold nothing (at first), a BRICK (a BODY), or a ROW");
        fresh();
        x.body(BEND);
        x.body(HOLE);
        for (int shelf = 0; shelf < 6; shelf++) {
            due("nothing at first", x.taken(shelf, 0), -11);
            due("a BRICK", x.keep(shelf, 0), 1);
            due("it", x.taken(shelf, BRICK), BEND);
            due("another one in its place", x.keep(shelf, 1), 1);
            due("it", x.taken(shelf, BRICK), HOLE);
            due("a ROW in its place", x.row(shelf, 2, 1), 1);
            due("no BRICK any more", x.taken(shelf, BRICK), -12);
            due("its element", x.element(shelf, 0), 0);
            due("a BRICK in its place", x.keep(shelf, 0), 1);
            due("no ROW any more", x.put(shelf, 0, 1), -12);
            due("nothing", x.keep(shelf, -1), 1);
            due("no BRICK any more", x.taken(shelf, BRICK), -11);
            due("no ROW either", x.put(shelf, 0, 1), -11);
            due("a BRICK on two SHELVES", x.keep(shelf, 1), 1);
        }
        due("each SHELF its own", x.taken(0, HOLE), HOLE);
        due("each SHELF its own", x.taken(5, HOLE), HOLE);
    }

    private void rowRefused() {
        promise(40, "A SHELF holds a ROW: 1. BAD (sort, n above 60); -14.");
        fresh();
        for (int shelf : NO_SHELVES) {
            due("shelf " + shelf, x.row(shelf, 0, 1), BAD);
            due("BAD ahead of -14, shelf " + shelf, x.row(shelf, 0, -1), BAD);
        }
        for (int sort : new int[] {-1, 5, 6, MAX, MIN}) {
            due("sort " + sort, x.row(0, sort, 1), BAD);
            due("BAD ahead of -14, sort " + sort, x.row(0, sort, -1), BAD);
        }
        for (int n : new int[] {61, 62, MAX}) {
            due("n " + n, x.row(0, 0, n), BAD);
        }
        for (int n : new int[] {-1, -2, -60, MIN}) {
            due("n " + n, x.row(0, 0, n), -14);
        }
        due("nothing is held", x.put(0, 0, 1), -11);
        bytes(0, 7);
        x.row(0, 0, -1);
        due("what was held is held", x.element(0, 0), 7);
        x.row(0, 0, 61);
        due("what was held is held", x.element(0, 0), 7);
    }

    private void rowsAtFirst() {
        term("of 0 bytes, 1 shorts, 2 ints, 3 longs, 4 booleans, of 0 .. 60 elements, 0 at first (false)");
        for (int sort = 0; sort < 5; sort++) {
            fresh();
            due("of none", x.row(0, sort, 0), 1);
            due("no element", x.element(0, 0), NONE);
            due("of sixty", x.row(0, sort, 60), 1);
            for (int i = 0; i < 60; i++) {
                due("0 at first", x.element(0, i), 0);
                x.put(0, i, -1);
            }
            due("no more", x.element(0, 60), NONE);
            due("a new one of one", x.row(0, sort, 1), 1);
            due("0 at first", x.element(0, 0), 0);
            due("no second", x.element(0, 1), NONE);
            x.row(0, sort, 60);
            for (int i = 0; i < 60; i++) {
                due("0 at first again", x.element(0, i), 0);
            }
        }
    }

    private void putRefused() {
        promise(41, "Element i of a ROW becomes v: 1. BAD, -11, -12, -13.");
        fresh();
        for (int shelf : NO_SHELVES) {
            due("shelf " + shelf, x.put(shelf, 0, 1), BAD);
            due("BAD ahead of -13, shelf " + shelf, x.put(shelf, -1, 1), BAD);
        }
        for (int i : new int[] {0, -1, 60}) {
            due("nothing, ahead of -13 too", x.put(0, i, 1), -11);
        }
        brickOn(0);
        for (int i : new int[] {0, -1, 60}) {
            due("a BRICK, ahead of -13 too", x.put(0, i, 1), -12);
        }
        x.row(0, 3, 60);
        for (int i : new int[] {-1, 60, 61, MAX, MIN}) {
            due("i " + i, x.put(0, i, 1), -13);
        }
        due("the first", x.put(0, 0, 1), 1);
        due("the last", x.put(0, 59, 2), 1);
        due("the first", x.element(0, 0), 1);
        due("the last", x.element(0, 59), 2);
        x.row(0, 3, 0);
        due("a ROW of none", x.put(0, 0, 1), -13);
        x.row(0, 3, 5);
        due("its size counts", x.put(0, 5, 1), -13);
        due("its size counts", x.put(0, 4, 1), 1);
    }

    private void lowestBits() {
        term("what is put in keeps its lowest bits (a boolean: whether it is not 0; 1 or 0)");
        long[] put = {127, 128, 255, 256, -128, -129, -256, 32767, 32768, 65535, 65536, -32768, -32769, 2147483647L,
            2147483648L, 4294967295L, 4294967296L, -2147483648L, -2147483649L, Long.MAX_VALUE, Long.MIN_VALUE, -1, 0, 1, 2};
        long[] bytes = {127, -128, -1, 0, -128, 127, 0, -1, 0, -1, 0, 0, -1, -1,
            0, -1, 0, 0, -1, -1, 0, -1, 0, 1, 2};
        long[] shorts = {127, 128, 255, 256, -128, -129, -256, 32767, -32768, -1, 0, -32768, 32767, -1,
            0, -1, 0, 0, -1, -1, 0, -1, 0, 1, 2};
        long[] ints = {127, 128, 255, 256, -128, -129, -256, 32767, 32768, 65535, 65536, -32768, -32769, 2147483647,
            -2147483648, -1, 0, -2147483648, 2147483647, -1, 0, -1, 0, 1, 2};
        long[][] kept = {bytes, shorts, ints, put};
        fresh();
        for (int sort = 0; sort < 5; sort++) {
            x.row(sort, sort, put.length);
            for (int i = 0; i < put.length; i++) {
                due("put " + put[i] + " in sort " + sort, x.put(sort, i, put[i]), 1);
                due("kept of " + put[i], x.element(sort, i), sort < 4 ? kept[sort][i] : put[i] == 0 ? 0 : 1);
            }
        }
    }

    private void elementRefused() {
        promise(42, "Element i of a ROW; Long.MIN_VALUE: BAD, -11 to -13.");
        fresh();
        for (int shelf : NO_SHELVES) {
            due("shelf " + shelf, x.element(shelf, 0), NONE);
        }
        due("nothing", x.element(0, 0), NONE);
        brickOn(0);
        due("a BRICK", x.element(0, 0), NONE);
        x.row(0, 3, 60);
        for (int i : new int[] {-1, 60, 61, MAX, MIN}) {
            due("i " + i, x.element(0, i), NONE);
        }
        x.put(0, 59, Long.MIN_VALUE);
        due("the last", x.element(0, 59), Long.MIN_VALUE);
        due("the first", x.element(0, 0), 0);
    }

    // ---- shift

    private void shiftRefused() {
        promise(43, "BAD, -11 (either), -12 (no ROWS, or of unlike sorts), -13.");
        fresh();
        x.row(0, 0, 3);
        x.row(1, 1, 3);
        brickOn(2);
        for (int shelf : NO_SHELVES) {
            due("shelf " + shelf, x.shift(shelf, 0, 0, 0, 1), BAD);
            due("other " + shelf, x.shift(0, 0, shelf, 0, 1), BAD);
            due("BAD ahead of -11", x.shift(shelf, 0, 5, 0, 1), BAD);
            due("BAD ahead of -11", x.shift(5, 0, shelf, 0, 1), BAD);
        }
        due("nothing", x.shift(5, 0, 0, 0, 1), -11);
        due("nothing on the other", x.shift(0, 0, 5, 0, 1), -11);
        due("nothing on both", x.shift(4, 0, 5, 0, 1), -11);
        due("nothing and itself", x.shift(5, 0, 5, 0, 0), -11);
        due("-11 ahead of -12", x.shift(2, 0, 5, 0, 1), -11);
        due("-11 ahead of -12", x.shift(5, 0, 2, 0, 1), -11);
        due("-11 ahead of -13", x.shift(5, -1, 0, -1, -1), -11);
        due("a BRICK", x.shift(2, 0, 0, 0, 1), -12);
        due("a BRICK on the other", x.shift(0, 0, 2, 0, 1), -12);
        due("a BRICK to itself", x.shift(2, 0, 2, 0, 0), -12);
        due("-12 ahead of -13", x.shift(2, -1, 0, -1, -1), -12);
        for (int sort = 0; sort < 5; sort++) {
            for (int other = 0; other < 5; other++) {
                x.row(3, sort, 1);
                x.row(4, other, 1);
                due("sorts " + sort + " and " + other, x.shift(3, 0, 4, 0, 1), sort == other ? 1 : -12);
                due("no elements of sorts " + sort + " and " + other, x.shift(3, 0, 4, 0, 0), sort == other ? 0 : -12);
            }
        }
        due("-12 ahead of -13, unlike sorts", x.shift(0, -1, 1, -1, -1), -12);
    }

    private void shiftByPlaces() {
        promise(43, "n elements of a ROW from i on come to another one (or the same) from j on, as they all were before: n.");
        fresh();
        bytes(0, 1, 2, 3, 4, 5);
        bytes(1, 9, 9, 9);
        int[][] bad = {{-1, 0, 1}, {0, -1, 1}, {0, 0, -1}, {0, 0, 4}, {2, 0, 4}, {5, 0, 1}, {6, 0, 0}, {0, 3, 1}, {0, 4, 0},
            {-1, 0, 0}, {0, -1, 0}, {3, 0, 3}, {0, 1, 3}, {0, 2, 2}, {0, 0, 6}, {MAX, 0, 1}, {0, MAX, 1}, {0, 0, MAX},
            {MAX, MAX, MAX}, {MIN, 0, 1}, {0, MIN, 1}, {0, 0, MIN}, {1, 1, MAX}, {MAX, 0, MAX}, {0, MAX, MAX}};
        for (int[] b : bad) {
            String call = "from " + b[0] + " to " + b[1] + ", " + b[2];
            due(call, x.shift(0, b[0], 1, b[1], b[2]), -13);
        }
        for (int i = 0; i < 3; i++) {
            due("nothing has come", x.element(1, i), 9);
        }
        due("none, at the first places", x.shift(0, 0, 1, 0, 0), 0);
        due("none, at the ends", x.shift(0, 5, 1, 3, 0), 0);
        due("the last to the last", x.shift(0, 4, 1, 2, 1), 1);
        due("it", x.element(1, 2), 5);
        due("as many as there is room for", x.shift(0, 2, 1, 0, 3), 3);
        due("the first of them", x.element(1, 0), 3);
        due("the last of them", x.element(1, 2), 5);
        due("what was shifted stays", x.element(0, 2), 3);
        due("the other way", x.shift(1, 0, 0, 0, 3), 3);
        due("the last of five stays", x.element(0, 4), 5);
        due("the first of five", x.element(0, 0), 3);
        x.row(2, 0, 0);
        due("a ROW of none", x.shift(2, 0, 0, 0, 0), 0);
        due("one of none", x.shift(2, 0, 0, 0, 1), -13);
        due("to a ROW of none", x.shift(0, 0, 2, 0, 1), -13);
        x.row(3, 0, 60);
        x.row(4, 0, 60);
        x.put(3, 59, 8);
        due("sixty", x.shift(3, 0, 4, 0, 60), 60);
        due("the last", x.element(4, 59), 8);
        due("sixty-one", x.shift(3, 0, 4, 0, 61), -13);
        due("sixty from 1", x.shift(3, 1, 4, 0, 60), -13);
        due("sixty to 1", x.shift(3, 0, 4, 1, 60), -13);
    }

    private void shiftWithin() {
        promise(43, "(or the same) from j on, as they all were before: n.");
        int[][] moves = {{0, 1, 4}, {1, 0, 4}, {0, 2, 3}, {2, 0, 3}, {0, 0, 5}, {2, 2, 1}, {0, 4, 1}, {4, 0, 1}};
        int[][] then = {{1, 1, 2, 3, 4}, {2, 3, 4, 5, 5}, {1, 2, 1, 2, 3}, {3, 4, 5, 4, 5}, {1, 2, 3, 4, 5},
            {1, 2, 3, 4, 5}, {1, 2, 3, 4, 1}, {5, 2, 3, 4, 5}};
        for (int k = 0; k < moves.length; k++) {
            fresh();
            bytes(0, 1, 2, 3, 4, 5);
            int[] m = moves[k];
            due("from " + m[0] + " to " + m[1], x.shift(0, m[0], 0, m[1], m[2]), m[2]);
            for (int i = 0; i < 5; i++) {
                due("element " + i, x.element(0, i), then[k][i]);
            }
        }
        due("one too many within", x.shift(0, 0, 0, 1, 5), -13);
    }

    private void shiftOfEachSort() {
        promise(43, "n elements of a ROW");
        fresh();
        for (int sort = 0; sort < 5; sort++) {
            x.row(0, sort, 2);
            x.row(1, sort, 2);
            x.put(0, 1, -1);
            due("sort " + sort, x.shift(0, 0, 1, 0, 2), 2);
            due("0 came", x.element(1, 0), 0);
            due("the other came", x.element(1, 1), sort == 4 ? 1 : -1);
        }
        x.row(0, 3, 1);
        x.row(1, 3, 1);
        x.put(0, 0, Long.MIN_VALUE);
        x.shift(0, 0, 1, 0, 1);
        due("a long comes whole", x.element(1, 0), Long.MIN_VALUE);
    }

    // ---- taken, count

    private void takenRefused() {
        promise(44, "What a SHELF holds, taken for a BRICK of KIND k (0 .. 7), or under it: its KIND. BAD, -11, -12.");
        fresh();
        for (int shelf : NO_SHELVES) {
            due("shelf " + shelf, x.taken(shelf, 0), BAD);
        }
        for (int k : new int[] {-1, 8, MAX, MIN}) {
            due("BAD ahead of -11, k " + k, x.taken(0, k), BAD);
        }
        due("nothing", x.taken(0, 0), -11);
        due("nothing", x.taken(0, 7), -11);
        for (int sort = 0; sort < 5; sort++) {
            x.row(0, sort, 1);
            due("a ROW", x.taken(0, 0), -12);
        }
        due("BAD ahead of -12", x.taken(0, 8), BAD);
    }

    private void takenForKinds() {
        term("0 BRICK; 1 BEND under BRICK; 2 HOLE under BRICK; 3 CUPBOARD under HOLE; 4 CORNER under BEND; 5 TUNNEL under CUPBOARD; 6 IVY under BRICK; 7 END under CORNER.");
        allKinds();
        String[] under = {"0", "01", "02", "023", "014", "0235", "06", "0147"};
        for (int kind = 0; kind < 8; kind++) {
            x.keep(kind % 6, kind);
            for (int k = 0; k < 8; k++) {
                boolean is = under[kind].indexOf('0' + k) >= 0;
                due("KIND " + kind + " for " + k, x.taken(kind % 6, k), is ? kind : -12);
            }
        }
    }

    private void countRefused() {
        promise(45, "How many: 0 HOLES, 1 LANES, 2 bytes on THE TAPE, 3 changes that may be UNDONE, 4 BODIES, 5 bodies that ran in the latest act() (all, kept or not). BAD.");
        fresh();
        for (int what : new int[] {-1, 6, 7, MAX, MIN}) {
            due("what " + what, x.count(what), BAD);
        }
    }

    private void countsAtFirst() {
        promise(45, "How many: 0 HOLES, 1 LANES");
        fresh();
        for (int what = 0; what < 6; what++) {
            due("none, what " + what, x.count(what), 0);
        }
    }

    private void counts() {
        promise(45, "3 changes that may be UNDONE, 4 BODIES, 5 bodies that ran in the latest act()");
        fresh();
        for (int i = 0; i < 13; i++) {
            x.hole(i % 12);
            x.lane(1);
        }
        feedAll("1".repeat(121));
        for (int i = 0; i < 51; i++) {
            x.body(END);
            x.mend(0, WARM, i);
        }
        x.act(49, TELLS_ON, 0);
        int[] most = {12, 12, 120, 40, 50, 14};
        for (int what = 0; what < 6; what++) {
            due("what is FULL, what " + what, x.count(what), most[what]);
        }
        x.digs();
        x.undo();
        x.law();
        x.act(49, STANDS, 0);
        int[] then = {12, 12, 0, 39, 50, 2};
        for (int what = 0; what < 6; what++) {
            due("then, what " + what, x.count(what), then[what]);
        }
        fresh();
        x.digs();
        due("one dug is one", x.count(0), 1);
    }
}
