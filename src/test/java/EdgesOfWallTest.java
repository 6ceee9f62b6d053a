import java.io.IOException;

/** The boundary cases of yards, holes, lanes, mending, yards from rows and the law, sentence by sentence. */
public final class EdgesOfWallTest extends Trial {
    /** By what mend() counts: the least and the greatest of each number, and what it is at first. */
    private static final int[] LEAST = {1, 0, -1, 0, 1, 0, 1, 0, 2, 1, 0, 0};
    private static final int[] GREATEST = {9, 99, 5, 1, 9, 1, 9, 99, 30, 30, 9, 99};
    private static final int[] AT_FIRST = {4, 50, -1, 1, 1, 1, 1, 2, 12, 3, 1, 3};
    /** The number of its kind that is the last one to be there in fullWall(). */
    private static final int[] LAST = {29, 29, 29, 11, 11, 11, 11, 1, 0, 0, 0, 0};

    public static void main(String[] args) throws IOException {
        new EdgesOfWallTest().test(args);
    }

    private void test(String[] args) throws IOException {
        read(args);
        straightWall();
        constants();
        objectsApart();
        longest();
        boundsOfNumbers();
        roundOfEnds();
        beyondLong();
        yardsThatAreThere();
        holesByNumber();
        holesNotThere();
        lanesByNumber();
        lanesNotThere();
        mendRefused();
        ofRefused();
        rowsMissing();
        rowsEnding();
        rowsNotSo();
        noSuchYards();
        rowsRefused();
        rowsAsChanges();
        tapeFull();
        lawOrFault();
        lawOfAllBytes();
        linesOfLaw();
        comparedOnce();
        chains();
        digits();
        sixOpen();
        intsThatWrap();
        dividing();
        oneOrZero();
        firstLineThatCounts();
        faultsByPlace();
        bytesOfNoText();
        heldWithin();
        stepsAtTheEnds();
        allTried(1, 8);
        check.end();
    }

    /** Twelve HOLES in YARDS 0 to 11, twelve LANES from PLACE 0. */
    private void fullWall() {
        fresh();
        for (int i = 0; i < 12; i++) {
            x.hole(i);
            x.lane(i + 1);
        }
    }

    // ---- a new object

    private void straightWall() {
        promise(1, "A straight wall of twelve yards.");
        fresh();
        due("LONG", x.of(0, LONG), 12);
        due("the last PLACE", x.way(2323, 0), 0);
        due("none behind it", x.way(2424, 0), BAD);
        due("straight: no LANE, no HOLE", x.count(0) + x.count(1), 0);
        due("all along it", x.reach(0, 11), 4095);
        due("and no farther", x.reach(0, 10), 2047);
    }

    private void constants() {
        term("BAD (-1): no such number, or it is not as said; NOT (-2): as told; FULL (-3); STATE (-5): as told; -11 to -14. VOID is -2000000000.");
        due("BAD", OneWall.BAD, -1);
        due("NOT", OneWall.NOT, -2);
        due("FULL", OneWall.FULL, -3);
        due("STATE", OneWall.STATE, -5);
        due("VOID", OneWall.VOID, -2000000000);
    }

    private void objectsApart() {
        term("All memory is the class's own.");
        fullWall();
        lawOf("9");
        x.feed('1');
        x.mend(0, LONG, 30);
        x.body(0);
        x.row(0, 3, 60);
        x.lend(1, 9);
        x.digs();
        x.go(5);
        x.image();
        OneWall other = new OneWall();
        for (int what = 0; what < 6; what++) {
            due("another one's count(" + what + ")", other.count(what), 0);
        }
        due("another one's LONG", other.of(0, LONG), 12);
        due("another one's law", other.way(2, 0), 1);
        due("another one's BRICKS", other.bricks(1, 1), 0);
        due("another one's SHELF", other.put(0, 0, 1), -11);
        due("another one's PLACE", other.led(3), 0);
        due("another one's image", other.back(), STATE);
    }

    // ---- the wall's numbers

    private void longest() {
        term("======== 1 THE WALL has YARDS 0 .. LONG less 1 (LONG 2 .. 30; 12 at first), each with two SIDES; PLACE 2 y and the SIDE (0, 1).");
        fresh();
        due("12 at first", x.of(0, LONG), 12);
        for (int v : new int[] {1, 0, -1, 31, 32, MAX, MIN}) {
            due("LONG " + v, x.mend(0, LONG, v), VOID);
        }
        due("still 12", x.of(0, LONG), 12);
        for (int yards = 2; yards <= 30; yards++) {
            x.mend(0, LONG, yards);
            due("LONG " + yards, x.of(0, LONG), yards);
            due("its last YARD", x.frost(0, yards - 1), 50);
            due("no YARD behind", x.frost(0, yards), BAD);
            due("its last PLACE", x.way(2 * yards - 1, 1) >= 0 ? 1 : 0, 1);
            due("no PLACE behind", x.way(2 * yards, 1), BAD);
            due("no PLACE behind to go from", x.way(200 * yards, 1), BAD);
            due("how many PLACES", x.far(0, 2), 2 * yards);
        }
        longAs(2);
        due("hole(1) of two YARDS", x.hole(1), 0);
        due("hole(2) of two YARDS", x.hole(2), BAD);
        due("lane of the last two PLACES", x.lane(203), 0);
        due("lane to PLACE 4 of two YARDS", x.lane(4), BAD);
        longAs(30);
        due("hole(29) of thirty YARDS", x.hole(29), 0);
        due("hole(30) of thirty YARDS", x.hole(30), BAD);
        due("lane of the last PLACE", x.lane(59), 0);
        due("lane of PLACE 60", x.lane(60), BAD);
        due("lane from PLACE 60", x.lane(6000), BAD);
        due("a place of 99", x.lane(99), BAD);
    }

    private void boundsOfNumbers() {
        term("A YARD: THICK (1 .. 9; 4 at first), WARM (0 .. 99; 50 at first), OWNER (-1 .. 5; -1 at first: nobody).");
        boundsOf(THICK);
        boundsOf(WARM);
        boundsOf(OWNER);
        term("OPEN (0, 1; 1 at first), DEEP (1 .. 9 minutes; 1 at first).");
        boundsOf(OPEN);
        boundsOf(DEEP);
        term("WIDE (1 .. 9 minutes; 1 at first), OPEN likewise.");
        boundsOf(LANE_OPEN);
        boundsOf(WIDE);
        term("(1 .. 99; 0: one cannot; 2 at first)");
        boundsOf(ROUND);
        term("(LONG 2 .. 30; 12 at first)");
        boundsOf(LONG);
        term("TELLS minutes (1 .. 30; 3 at first)");
        boundsOf(TELLS);
        term("COLD (0 .. 9; 1 at first)");
        boundsOf(COLD);
        term("RATE (0 .. 99; 3 at first)");
        boundsOf(RATE);
    }

    private void boundsOf(int what) {
        fullWall();
        for (int number : new int[] {0, LAST[what]}) {
            String call = "what " + what + " of " + number + ": ";
            if (number > 0 || LAST[what] > 0) {
                due(call + "at first", x.of(number, what), AT_FIRST[what]);
            }
            for (int v : new int[] {LEAST[what] - 1, GREATEST[what] + 1, MIN, MAX, LEAST[what] - 100, 1000}) {
                due(call + "not " + v, x.mend(number, what, v), VOID);
            }
            int was = x.of(number, what);
            due(call + "the least", x.mend(number, what, LEAST[what]), was);
            due(call + "the least again", x.mend(number, what, LEAST[what]), LEAST[what]);
            due(call + "the greatest", x.mend(number, what, GREATEST[what]), LEAST[what]);
            due(call + "is the greatest", x.of(number, what), GREATEST[what]);
        }
    }

    private void roundOfEnds() {
        term("ROUND of an end (0: at YARD 0; 1: at the last one): how many minutes it takes from SIDE to SIDE there (1 .. 99; 0: one cannot; 2 at first).");
        longAs(2);
        due("at YARD 0 at first", x.way(1, 0), 2);
        due("at the last one at first", x.way(203, 0), 2);
        x.mend(1, ROUND, 99);
        due("only the last one", x.way(1, 0), 2);
        due("99 is farther than back and round the other", x.way(203, 0), 4);
        x.mend(0, ROUND, 0);
        due("one cannot at YARD 0", x.way(1, 0), 101);
        due("99", x.way(203, 0), 99);
        due("and back", x.way(302, 0), 99);
        x.mend(1, ROUND, 0);
        due("one cannot at both", x.way(203, 0), NOT);
        x.mend(1, ROUND, 1);
        due("1", x.way(203, 0), 1);
        x.mend(0, LONG, 3);
        due("the last one is elsewhere now", x.way(405, 0), 1);
        due("and no more there", x.way(203, 0), 3);
    }

    private void beyondLong() {
        term("YARDS beyond LONG keep what they have.");
        fresh();
        due("YARD 12 is mended", x.mend(12, THICK, 9), 4);
        due("YARD 29 is mended", x.mend(29, WARM, 0), 50);
        due("YARD 29 is mended", x.mend(29, OWNER, 5), -1);
        x.mend(0, LONG, 2);
        x.mend(0, LONG, 30);
        due("YARD 12 THICK", x.of(12, THICK), 9);
        due("YARD 29 WARM", x.of(29, WARM), 0);
        due("YARD 29 OWNER", x.of(29, OWNER), 5);
        due("which counts now", x.frozen(0), 29);
        x.mend(0, LONG, 29);
        due("and does not any more", x.frozen(1) > 0 ? 1 : 0, 1);
    }

    /** Five YARDS, and behind them others that would tell otherwise. */
    private void yardsThatAreThere() {
        term("All is by the YARDS that are there.");
        fresh();
        for (int y = 5; y < 12; y++) {
            x.mend(y, WARM, 0);
            x.mend(y, OWNER, 0);
        }
        x.mend(0, OWNER, 0);
        x.hole(5);
        x.lane(1011);
        x.lane(11);
        shorts(0, 0, 0, 10, 9);
        shorts(1);
        x.mend(0, COLD, 0);
        x.mend(0, LONG, 5);
        due("way round the last YARD", x.way(809, 0), 2);
        due("far", x.far(0, 2), 10);
        due("reach", x.reach(0, 999), 31);
        due("widest", x.widest(), 6);
        due("dig", x.dig(0), 0);
        due("spare", x.spare(1, 0), NOT);
        due("spare a LANE", x.spare(1, 2), NOT);
        due("pace: from YARD 0 and 4 both at 2 each time", x.pace(4, 8, 0), 2);
        due("pace of YARD 5", x.pace(5, 0, 0), BAD);
        due("meet of YARD 5", x.meet(500), BAD);
        due("news of PLACE 10", x.news(10), BAD);
        due("heard", x.heard(0, 999), 10);
        due("the last to hear", x.heard(0, -1), 9);
        due("whence", x.whence(0, 0, 0), 10);
        due("frost: YARD 5 cools nobody", x.frost(60, 4), 50);
        due("frost of YARD 5", x.frost(0, 5), BAD);
        due("frozen", x.frozen(0), NOT);
        due("tax", x.tax(0), 3);
        due("oneMan", x.oneMan(0), 1);
        due("where", x.where(1, 0, -1), 10);
        due("where of PLACE 10", x.where(1, 0, 10), BAD);
        due("drawn", x.drawn(9, 5, 200, 0) < 10 ? 1 : 0, 1);
        due("go to PLACE 10", x.go(10), BAD);
        due("hole in YARD 5", x.hole(5), BAD);
        due("lane to PLACE 10", x.lane(10), BAD);
        due("THICK of YARD 5 is told", x.of(5, THICK), 4);
        due("and mended", x.mend(5, THICK, 9), 4);
    }

    // ---- holes and lanes

    private void holesByNumber() {
        promise(2, "A HOLE in a YARD: its number. BAD, FULL: 12.");
        fresh();
        for (int yard : new int[] {-1, 12, 13, 29, 30, MAX, MIN}) {
            due("hole(" + yard + ")", x.hole(yard), BAD);
        }
        due("none has come", x.count(0), 0);
        for (int h = 0; h < 12; h++) {
            due("the " + h + "th", x.hole(h % 2 == 0 ? 0 : 11), h);
        }
        due("a thirteenth", x.hole(0), FULL);
        due("twelve", x.count(0), 12);
        due("the last one's YARD", x.of(11, 12), 11);
        due("no YARD of a thirteenth", x.of(12, 12), VOID);
        x.mend(0, LONG, 2);
        due("FULL though six are not there", x.hole(0), FULL);
    }

    private void holesNotThere() {
        term("HOLES (0 .. 11, as they come): in a YARD (one that is not there any more does not count)");
        parted(12);
        x.hole(11);
        x.lend(1, 1);
        due("way through it", x.way(1, 0), 23);
        due("far", x.far(0, 2), 24);
        due("meet", x.meet(1111), 0);
        x.mend(0, LONG, 11);
        due("way", x.way(1, 0), NOT);
        due("first STEP", x.way(1, 1), NOT);
        due("far", x.far(0, 2), 11);
        due("reach", x.reach(0, 1999), 0);
        due("widest", x.widest(), NOT);
        due("spare", x.spare(1, 0), NOT);
        due("spare, what it is then", x.spare(1, 1), NOT);
        due("meet", x.meet(1010), NOT);
        due("go", x.go(1), NOT);
        due("drawn stays on its SIDE", x.drawn(20, 3, 200, 0) % 2, 0);
        due("its YARD is still told", x.of(0, 12), 11);
        due("it is still mended", x.mend(0, DEEP, 9), 1);
        due("dig", x.dig(1), 11);
        x.mend(0, LONG, 12);
        due("there again", x.way(1, 0), 31);
    }

    private void lanesByNumber() {
        promise(3, "A LANE between two PLACES (ab): its number. BAD, FULL: 12.");
        fresh();
        for (int ab : new int[] {0, 101, 2323, -1, -100, -101, 24, 2400, 2424, 99, 9900, 10000, 2323 + 1, MAX, MIN}) {
            due("lane(" + ab + ")", x.lane(ab), BAD);
        }
        due("none has come", x.count(1), 0);
        for (int l = 0; l < 12; l++) {
            due("the " + l + "th", x.lane(l % 2 == 0 ? 23 : 2300), l);
        }
        due("a thirteenth", x.lane(1), FULL);
        due("twelve", x.count(1), 12);
        due("the last one's", x.of(11, 13), 23);
        due("the last one's", x.of(11, 14), 0);
        due("none of a thirteenth", x.of(12, 13), VOID);
        due("none of a thirteenth", x.of(12, 14), VOID);
        longAs(30);
        due("between the last two", x.lane(5958), 0);
        due("the one", x.of(0, 13), 59);
        due("the other", x.of(0, 14), 58);
        due("the last one to itself", x.lane(5959), BAD);
    }

    private void lanesNotThere() {
        term("between two PLACES (unlike; both there, else it does not count)");
        for (int ab : new int[] {23, 2300}) {
            parted(12);
            due("unlike, on two SIDES", x.lane(ab), 0);
            due("way by it", x.way(1, 0), 12);
            due("either way", x.way(2300, 0), 1);
            x.mend(0, LONG, 11);
            due("one end is not there", x.way(1, 0), NOT);
            due("far", x.far(0, 2), 11);
            due("spare", x.spare(1, 2), NOT);
            due("spare, what it is then", x.spare(1, 3), NOT);
            due("its PLACES are still told", x.of(0, 13) + x.of(0, 14), 23);
            due("it is still mended", x.mend(0, WIDE, 9), 1);
            x.mend(0, LONG, 12);
            due("there again", x.way(1, 0), 20);
        }
        parted(12);
        x.lane(2023);
        x.mend(0, LONG, 5);
        due("no end is there", x.far(0, 2), 5);
    }

    // ---- mend and of

    private void mendRefused() {
        promise(4, "LONG (8), TELLS (9), COLD (10), RATE (11; number 0 for these) becomes v: what it was. VOID: BAD.");
        fullWall();
        for (int what = 0; what < 12; what++) {
            int v = GREATEST[what];
            due("number -1, what " + what, x.mend(-1, what, v), VOID);
            due("one too many, what " + what, x.mend(LAST[what] + 1, what, v), VOID);
            due("number max, what " + what, x.mend(MAX, what, v), VOID);
            due("number min, what " + what, x.mend(MIN, what, v), VOID);
        }
        for (int what : new int[] {-1, 12, 13, 14, 15, MAX, MIN}) {
            due("what " + what, x.mend(0, what, 1), VOID);
        }
        due("none was a CHANGE", x.count(3), 0);
        fresh();
        for (int what = OPEN; what <= WIDE; what++) {
            due("no HOLE, no LANE 0, what " + what, x.mend(0, what, 1), VOID);
        }
    }

    private void ofRefused() {
        promise(5, "As of mend() (0 to 11); 12 the YARD of a HOLE, 13, 14 the PLACES of a LANE. VOID: BAD.");
        fullWall();
        int[] last = {29, 29, 29, 11, 11, 11, 11, 1, 0, 0, 0, 0, 11, 11, 11};
        for (int what = 0; what < 15; what++) {
            due("the last one is told, what " + what, x.of(last[what], what) == VOID ? 1 : 0, 0);
            due("one too many, what " + what, x.of(last[what] + 1, what), VOID);
            due("number -1, what " + what, x.of(-1, what), VOID);
            due("number max, what " + what, x.of(MAX, what), VOID);
            due("number min, what " + what, x.of(MIN, what), VOID);
        }
        for (int what : new int[] {-1, 15, MAX, MIN}) {
            due("what " + what, x.of(0, what), VOID);
        }
        fresh();
        for (int what : new int[] {OPEN, DEEP, LANE_OPEN, WIDE, 12, 13, 14}) {
            due("no HOLE, no LANE 0, what " + what, x.of(0, what), VOID);
        }
    }

    // ---- yards from rows

    private void rowsMissing() {
        promise(6, "BAD, -12 (no ROW of bytes; a SHELF that holds nothing is missing)");
        fresh();
        for (int i : new int[] {0, 1, -1, 59, 60, MAX, MIN}) {
            due("missing, from " + i, x.yards(5, i, 2930), 0);
        }
        for (int sort = 1; sort < 5; sort++) {
            x.row(0, sort, 60);
            due("sort " + sort, x.yards(0, 0, 1), -12);
            due("sort " + sort + " from a place that is not there", x.yards(0, 60, 1), -12);
            x.row(0, sort, 0);
            due("sort " + sort + " of no element", x.yards(0, 0, 1), -12);
        }
        brickOn(0);
        due("a BRICK", x.yards(0, 0, 1), -12);
        x.keep(0, -1);
        due("missing again", x.yards(0, 0, 1), 0);
        due("nothing has changed", x.count(3), 0);
    }

    private void rowsEnding() {
        term("it ends where the row is missing, ends (within a three, too)");
        fresh();
        x.row(0, 0, 0);
        due("no element", x.yards(0, 0, 1), 0);
        for (int more = 0; more < 3; more++) {
            fresh();
            int[] values = {3, 40, 0, 5, 20, 1, 7, 10};
            bytes(0, java.util.Arrays.copyOf(values, 3 + more));
            due(more + " of the next three", x.yards(0, 0, 410), 1);
            due("the one ahead is so", x.of(4, THICK), 3);
            due("the next is as it was", x.of(5, THICK), 4);
            due("the next is as it was", x.of(5, WARM), 50);
            due("CHANGES", x.count(3), 3);
        }
        fresh();
        bytes(0, 3, 40, 0);
        for (int i : new int[] {1, 2, 3, 4, 60, -1, -2, -3, -4, MAX, MAX - 1, MAX - 2, MIN, MIN + 1}) {
            due("from " + i, x.yards(0, i, 1), 0);
        }
        due("nothing has changed", x.count(3), 0);
        fill(0, 0, new int[60]);
        x.put(0, 57, 1);
        due("the last three of sixty", x.yards(0, 57, 302), 1);
        due("THICK", x.of(3, THICK), 1);
        due("WARM", x.of(3, WARM), 0);
        due("OWNER", x.of(3, OWNER), 0);
        due("from the last two", x.yards(0, 58, 501), 0);
    }

    private void rowsNotSo() {
        term("one is not so, or there is no such YARD (0 .. 29, whatever LONG): those ahead are so");
        for (int what = THICK; what <= OWNER; what++) {
            for (int v : new int[] {LEAST[what] - 1, GREATEST[what] + 1, -128, 127}) {
                fresh();
                int[] values = {3, 40, 0, 5, 20, 1, 7, 10, 2};
                values[3 + what] = v;
                bytes(0, values);
                due("what " + what + " is " + v, x.yards(0, 0, 1003), 1);
                due("the one ahead is so", x.of(10, WARM), 40);
                due("this one's THICK stays", x.of(11, THICK), 4);
                due("this one's WARM stays", x.of(11, WARM), 50);
                due("this one's OWNER stays", x.of(11, OWNER), -1);
                due("the one behind stays", x.of(12, THICK), 4);
            }
            for (int v : new int[] {LEAST[what], GREATEST[what]}) {
                fresh();
                int[] values = {3, 40, 0, 5, 20, 1, 7, 10, 2};
                values[3 + what] = v;
                bytes(0, values);
                due("what " + what + " may be " + v, x.yards(0, 0, 1003), 3);
                due("it is", x.of(11, what), v);
            }
        }
    }

    private void noSuchYards() {
        term("of YARDS from a told one on, n of them");
        longAs(2);
        fill(0, 0, new int[60]);
        for (int i = 0; i < 20; i++) {
            x.put(0, 3 * i, 9);
        }
        due("YARD 29, whatever LONG", x.yards(0, 0, 2901), 1);
        due("YARD 29", x.of(29, THICK), 9);
        due("and no more", x.yards(0, 0, 2930), 1);
        due("from YARD 15 on", x.yards(0, 0, 1530), 15);
        due("YARD 15", x.of(15, THICK), 9);
        due("all of a row of sixty", x.yards(0, 0, 30), 20);
        due("n 1", x.yards(0, 3, 1), 1);
        due("twenty of twenty", x.yards(0, 0, 20), 20);
        due("one less", x.yards(0, 0, 19), 19);
        longAs(12);
        bytes(0, 9, 0, 0, 9, 0, 0);
        due("only n", x.yards(0, 0, 1), 1);
        due("not the next", x.of(1, THICK), 4);
    }

    private void rowsRefused() {
        promise(6, "of YARDS from y (0 .. 29, whatever LONG) on, n (1 .. 30) of them (yn: 100 y and n): how many.");
        fresh();
        bytes(0, 3, 40, 0);
        for (int yn : new int[] {0, 31, 32, 99, 100, 131, 2900, 2931, 2999, 3000, 3001, 3030, -1, -30, -99, -100, -2901,
            MAX, MIN}) {
            due("yn " + yn, x.yards(0, 0, yn), BAD);
        }
        for (int shelf : new int[] {-1, 6, MAX, MIN}) {
            due("shelf " + shelf, x.yards(shelf, 0, 1), BAD);
        }
        x.row(1, 1, 3);
        due("BAD ahead of -12", x.yards(1, 0, 31), BAD);
        due("BAD ahead of missing", x.yards(2, 0, 3001), BAD);
        due("nothing has changed", x.count(3), 0);
    }

    private void rowsAsChanges() {
        term("(each other number is a CHANGE of its own)");
        fresh();
        bytes(0, 4, 40, -1, 5, 50, 2);
        due("two YARDS", x.yards(0, 0, 2), 2);
        due("three numbers are others", x.count(3), 3);
        due("the same again", x.yards(0, 0, 2), 2);
        due("none is another", x.count(3), 3);
        due("the latest first", x.undo(), 2);
        due("OWNER of YARD 1", x.of(1, OWNER), -1);
        due("a row that tells no other number keeps what may be DONE AGAIN", x.yards(0, 0, 1), 1);
        due("DONE AGAIN", x.redo(), 0);
        x.undo();
        due("another came behind", x.yards(0, 0, 2), 2);
        due("none DONE AGAIN", x.redo(), STATE);
        fresh();
        fill(0, 0, new int[60]);
        for (int i = 0; i < 20; i++) {
            x.put(0, 3 * i, 9);
        }
        due("sixty CHANGES", x.yards(0, 0, 20), 20);
        due("40 at most are kept", x.count(3), 40);
        for (int i = 39; i >= 0; i--) {
            due("undo", x.undo(), i);
        }
        due("the forty-first from behind is forgotten", x.of(6, WARM), 0);
        due("the fortieth is UNDONE", x.of(6, OWNER), -1);
        due("and all behind it", x.of(7, THICK), 4);
    }

    // ---- the tape and the law

    private void tapeFull() {
        promise(7, "A byte (0 .. 255) comes to THE TAPE: how many it has. BAD, FULL (120).");
        fresh();
        for (int letter : new int[] {-1, -128, 256, 257, MAX, MIN}) {
            due("feed(" + letter + ")", x.feed(letter), BAD);
        }
        due("empty", x.count(2), 0);
        due("feed(0)", x.feed(0), 1);
        due("feed(255)", x.feed(255), 2);
        x.law();
        parted(2);
        String text = "0+".repeat(59) + "07";
        for (int i = 0; i < 120; i++) {
            due("feed", x.feed(text.charAt(i)), i + 1);
        }
        due("a 121st", x.feed('9'), FULL);
        due("a 121st that ends no TEXT", x.feed('+'), FULL);
        due("BAD ahead of FULL", x.feed(256), BAD);
        due("120", x.count(2), 120);
        due("the 120 are the law", x.law(), 1);
        due("and the last of them counts", x.way(2, 0), 7);
        due("empty then", x.count(2), 0);
        due("a first one again", x.feed('1'), 1);
    }

    private void lawOrFault() {
        promise(8, "THE TAPE becomes THE LAW: 1; -100 less its FAULT; THE TAPE is empty then.");
        parted(2);
        due("an empty TAPE", x.law(), -100);
        due("without a text still", x.way(2, 0), 1);
        due("a law", lawOf("7"), 1);
        due("empty then", x.count(2), 0);
        due("it counts", x.way(2, 0), 7);
        due("an empty TAPE is no law", x.law(), -100);
        due("the old one counts", x.way(2, 0), 7);
        due("a FAULT at 1", lawOf("8)"), -101);
        due("empty then, too", x.count(2), 0);
        due("the old one counts", x.way(2, 0), 7);
        due("a FAULT of a longer TEXT", lawOf("9+9+9+9+9+9+9+9+9+"), -118);
        due("the old one counts", x.way(2, 0), 7);
        due("a new law", lawOf("3"), 1);
        due("it counts", x.way(2, 0), 3);
    }

    private void lawOfAllBytes() {
        term("THE LAW is a TEXT by THE TAPE (at most 120 bytes)");
        fresh();
        feedAll("1+".repeat(59) + "1");
        due("119", x.count(2), 119);
        due("119 bytes", x.law(), 1);
        due("120 bytes", lawOf("1+".repeat(59) + "11"), 1);
        due("120 bytes that end too early", lawOf("1+".repeat(60)), -220);
        due("119 bytes that end too early", lawOf("1+".repeat(59) + "("), -219);
        due("the 120th byte is at fault", lawOf("1+".repeat(59) + "1x"), -219);
        due("the 119th byte is at fault", lawOf("1+".repeat(59) + "x1"), -218);
        due("more signs than a law of names alone", lawOf("!!!!!!t|!!!!!!t|".repeat(7) + "!!!!!!!t"), -218);
        due("120 bytes of signs", lawOf("!!!!!!t|!!!!!!t|".repeat(7) + "!!!!!!tt"), -219);
        due("sixty LINES", lawOf("0;".repeat(59) + "t"), 1);
        parted(2);
        for (int i = 2; i < 6; i++) {
            due("the last of thirty LINES counts", lawOf("0?0;".repeat(29) + "!0+" + i), 1);
            due("worked out, law after law", x.way(2, 0), 1 + i);
        }
    }

    private void linesOfLaw() {
        term("LINES, one or more, parted by ; . LINE: E, or E ? E (what counts if the first is not 0).");
        String[] texts = {"", ";", "1;", ";1", "1;;1", "1;1;", "?", "1?", "?1", "1?1?", "1?1?1", "1?;1", "(1?1)",
            "(1;1)", "1?1;1?1;"};
        int[] faults = {0, 0, 2, 0, 2, 4, 0, 2, 0, 3, 3, 2, 2, 2, 8};
        faults(texts, faults);
        works("1", 1);
        works("3?4", 4);
        works("-1?4", 4);
        works("0?4", 1);
        works("0?4;5", 5);
        works("5;0?4", 5);
        works("1?0|9;7", 1);
        works("0|0?6;7", 7);
        works("0|3?6;7", 6);
    }

    private void faults(String[] texts, int[] faults) {
        for (int i = 0; i < texts.length; i++) {
            fresh();
            due("law of " + texts[i], lawOf(texts[i]), -100 - faults[i]);
        }
    }

    /** A sound law by which the STEP from PLACE 0 to 2 takes so long; THICK 4, WARM 50, OWNER -1 there. */
    private void works(String text, int minutes) {
        parted(2);
        due("law of " + text, lawOf(text), 1);
        due(text + " worked out", x.way(2, 0), minutes);
    }

    private void comparedOnce() {
        term("B = S, or S < S, S = S, S > S.");
        faults(new String[] {"1<2<3", "1<2=3", "1=2>3", "1>2<", "(1=1=1)", "1|2<3<4", "1<2|3<4<5", "1<2+3<4"},
            new int[] {3, 3, 3, 3, 4, 5, 7, 5});
        works("(1<2)<3", 1);
        works("1<2&2<3|3<4", 1);
        works("5+((1<2)=(2>1))", 6);
    }

    private void chains() {
        term("E = A { | A }. A = B { & B }.");
        works("(0|0|0|1)+5", 6);
        works("(0|0|0|0)+5", 5);
        works("(1&1&1&0)+5", 5);
        works("(1&2&3&4)+5", 6);
        works("(1|0&0)+5", 6);
        works("(0&0|1)+5", 6);
        works("(1|1&0)+5", 6);
        term("S = P { + P, - P }. P = O { * O, / O, % O }.");
        works("9-4-3", 2);
        works("9-4+3", 8);
        works("80/4/5", 4);
        works("80/4*5", 99);
        works("7*5%6*2", 10);
        works("100%30/3", 3);
        works("2+3*4-8/2", 10);
        works("1+" + "1+".repeat(58) + "11", 70);
        works("2*1" + "*1".repeat(58) + "1", 22);
        works("(1" + "&1".repeat(57) + ")+5", 6);
        works("(0" + "|0".repeat(56) + "|1)+5", 6);
    }

    private void digits() {
        term("O = a number (1 to 4 digits), a NAME, ! O, - O, ( E ). No blanks.");
        faults(new String[] {"10000", "00000", "1+12345", " 1", "1 ", "1 +1", "()", "(", "!", "-", "1)", "(1", "tt", "t1",
            "1t", "(1)1", "(1)t", "(1)(1)"}, new int[] {4, 4, 6, 0, 1, 1, 1, 1, 1, 1, 1, 2, 1, 1, 1, 3, 3, 3});
        works("9", 9);
        works("0009", 9);
        works("9999-9979", 20);
        works("0000+7", 7);
    }

    private void sixOpen() {
        term("At most 6 of ( ! - ahead of an O are open at once.");
        faults(new String[] {"(((((((1)))))))", "!!!!!!!1", "-------1", "(((!-!(1))))", "!(!(!(!1)))", "-(-(-(-(1))))",
            "1--------1", "((((((1))))))+(((((((1)))))))", "(((((1+!!1)))))", "t?-------1", "1;-------1"},
            new int[] {6, 6, 6, 6, 6, 6, 8, 20, 8, 8, 8});
        works("((((((7))))))", 7);
        works("------7", 7);
        works("!!!!!!7+6", 7);
        works("(-(-(-7)))+14", 7);
        works("((((((7))))))+((((((7))))))", 14);
        works("------7+------7", 14);
        works("10-------7", 3);
        works("(((((7+!7)))))", 7);
        works("(((((!7+!7+7)))))", 7);
        works("------7?------8;------9", 8);
    }

    private void intsThatWrap() {
        term("Ints that wrap; / and % toward 0, by 0 they give 0");
        String least = "2048*32*4096*8";
        works(least, 1);
        works(least + "-1", 99);
        works(least + "<0?21;22", 21);
        works(least + "-1>0?21;22", 21);
        works("(" + least + "-1)+1<0?21;22", 21);
        works("-(" + least + ")<0?21;22", 21);
        works(least + "*-1<0?21;22", 21);
        works(least + "/-1<0?21;22", 21);
        works(least + "/-1=" + least + "?21;22", 21);
        works(least + "%-1=0?21;22", 21);
        works(least + "<" + least + "-1?21;22", 21);
        works(least + "-1>" + least + "?21;22", 21);
        works(least + "?21;22", 21);
        works("2048*32*4096*16?21;22", 22);
        // 999700029999 less 233 times 2 to the 32nd
        works("9999*9999*9999%100+100", 31);
        works("9999*9999*9999*9999-9999*9999*9999*9999+3", 3);
    }

    private void dividing() {
        term("/ and % toward 0, by 0 they give 0");
        works("50+7/2", 53);
        works("50+-7/2", 47);
        works("50+7/-2", 47);
        works("50+-7/-2", 53);
        works("50+7%2", 51);
        works("50+-7%2", 49);
        works("50+7%-2", 51);
        works("50+-7%-2", 49);
        works("50+1/2", 50);
        works("50+-1/2", 50);
        works("50+5/0", 50);
        works("50+5%0", 50);
        works("50+0/0+0%0", 50);
        works("50+-5/0+-5%0", 50);
        works("50+5/(t-4)", 50);
        works("50+5%(t-4)", 50);
        works("50+5/0*9", 50);
    }

    private void oneOrZero() {
        term("| & < = > ! give 1, 0");
        works("5+(7|9)*2", 7);
        works("5+(0|-9)*2", 7);
        works("5+(9|0)*2", 7);
        works("5+(0|0)*2", 5);
        works("5+(7&9)*2", 7);
        works("5+(0&9)*2", 5);
        works("5+(9&0)*2", 5);
        works("5+(1&2)*2", 7);
        works("5+(4<5)*2+(5<5)", 7);
        works("5+(-1<0)*2+(5<4)", 7);
        works("5+(5=5)*2+(5=4)", 7);
        works("5+(5>4)*2+(5>5)", 7);
        works("5+(0>-1)*2+(4>5)", 7);
        works("5+!0*2+!1+!7+!-1", 7);
        works("5+!!7*2", 7);
        works("5+(2048*32*4096*8|0)*2", 7);
        works("5+(2048*32*4096*8&1)*2", 7);
        works("5+!(2048*32*4096*8)", 5);
    }

    private void firstLineThatCounts() {
        term("The first LINE without a first E, or whose first E is not 0, counts; none: 0.");
        works("0?5", 1);
        works("0?5;0?6;0?7", 1);
        works("0;7", 1);
        works("1?0;7", 1);
        works("0?5;7;9", 7);
        works("0?5;0?6;1?7;8", 7);
        works("t=4?5;6", 5);
        works("t=5?5;6", 6);
        works("0?5;-1?6", 6);
        works("0?5;0;7", 1);
        parted(2);
        String[] laws = {"0?1;0?2;0?3;7", "0?1;0?2;0?3;8", "0?5", "0?6"};
        int[] minutes = {7, 8, 1, 1};
        for (int i = 0; i < laws.length; i++) {
            lawOf(laws[i]);
            due("no LINE of a law before counts in " + laws[i], x.way(2, 0), minutes[i]);
        }
    }

    private void faultsByPlace() {
        term("FAULT: the place (from 0) of the first byte with which no TEXT goes on; the length, if it ends too early.");
        faults(new String[] {"x", "1x", "1+x", "+", "*1", "1**1", "1*+1", "1<>1", "1==1", "1!1", "1(", "t(", "1+()", "1|",
            "1|&", "1&|1", "1<", "1<)", "((1)", "(1+", "!(", "-(1", "1?2;", "1?2;3?", "1?2;3?4;", "T", "W", "1.", "1,1"},
            new int[] {0, 1, 2, 0, 0, 2, 2, 2, 2, 1, 1, 1, 3, 2,
                2, 2, 2, 2, 4, 3, 2, 3, 4, 6, 8, 0, 0, 1, 1});
    }

    private void bytesOfNoText() {
        term("NAMES: t THICK, w WARM, o OWNER, s the SIDE, y the YARD from which one goes, d 1 upward, 0 downward.");
        String sound = "twosyd0123456789(!-";
        for (int letter = 0; letter < 256; letter++) {
            fresh();
            x.feed(letter);
            boolean name = sound.indexOf(letter) >= 0 && letter != '(' && letter != '!' && letter != '-';
            due("a TEXT of byte " + letter, x.law(), name ? 1 : sound.indexOf(letter) >= 0 ? -101 : -100);
            x.feed('1');
            x.feed(letter);
            boolean digit = letter >= '0' && letter <= '9';
            int want = digit ? 1 : "+-*/%<=>&|?;".indexOf(letter) >= 0 ? -102 : -101;
            due("behind a number byte " + letter, x.law(), want);
        }
        parted(30);
        x.mend(0, THICK, 9);
        x.mend(29, WARM, 0);
        x.mend(29, OWNER, 5);
        lawOf("t+w+o+s+y+d");
        due("from YARD 0 upward: 9 and 50 less 1 and 1", x.way(2, 0), 59);
        due("on SIDE 1", x.way(103, 0), 60);
        due("from YARD 29 downward: 4 and 0 and 5 and 29", x.way(5856, 0), 38);
        due("on SIDE 1", x.way(5957, 0), 39);
        due("from YARD 28 upward: 4 and 50 less 1 and 28 and 1", x.way(5658, 0), 82);
        due("from YARD 1 downward: 4 and 50 less 1 and 1", x.way(200, 0), 54);
    }

    private void heldWithin() {
        term("It gives how many minutes it takes from a PLACE to the next YARD's on its SIDE (held within 1 .. 99). Without a text: 1.");
        works("0", 1);
        works("1", 1);
        works("2", 2);
        works("-1", 1);
        works("0-9999", 1);
        works("98", 98);
        works("99", 99);
        works("100", 99);
        works("9999", 99);
        works("o", 1);
        parted(2);
        due("without a text", x.way(2, 0), 1);
    }

    private void stepsAtTheEnds() {
        term("A STEP: to the next YARD or the one ahead on its SIDE; through an OPEN HOLE of its YARD; by an OPEN LANE, either way; ROUND an end.");
        parted(2);
        due("none ahead of YARD 0, none behind the last one", x.far(0, 2), 2);
        due("either way", x.way(200, 0), 1);
        x.hole(1);
        due("a HOLE of its YARD", x.way(203, 0), 1);
        due("either way", x.way(302, 0), 1);
        due("not of another YARD", x.way(1, 0), 3);
        x.mend(0, OPEN, 0);
        due("a shut HOLE", x.way(203, 0), NOT);
        x.lane(3);
        due("a LANE", x.way(3, 0), 1);
        due("either way", x.way(300, 0), 1);
        x.mend(0, LANE_OPEN, 0);
        due("a shut LANE", x.way(3, 0), NOT);
    }
}
