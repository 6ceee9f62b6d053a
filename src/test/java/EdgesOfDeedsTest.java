import java.io.IOException;

/** The boundary cases of what was seen and drawn, and of what is done in deed and undone, sentence by sentence. */
public final class EdgesOfDeedsTest extends Trial {
    public static void main(String[] args) throws IOException {
        new EdgesOfDeedsTest().test(args);
    }

    private void test(String[] args) throws IOException {
        read(args);
        rowsRefused();
        twosAsSaid();
        twosInTime();
        twosWithoutWay();
        twosLackingTheirEnd();
        longRows();
        whereRefused();
        whereWithin();
        whereTooSoon();
        whereNotOneMan();
        whereNothingSeen();
        drawnRefused();
        drawnByRing();
        drawnEachOnce();
        goRefused();
        goings();
        digsRefused();
        diggings();
        turnRefused();
        turnings();
        ledRefused();
        imageNone();
        imageKeeps();
        imageBeyondLong();
        undoNone();
        undoEachNumber();
        noChanges();
        sameNumber();
        fortyAtMost();
        fortyOfManyKinds();
        redoNone();
        anotherCameBehind();
        lastCallOfAll();
        allTried(25, 35);
        check.end();
    }

    // ---- one man

    private void rowsRefused() {
        promise(25, "ONE MAN. BAD, -11, -12 (no ROW of shorts); NOT.");
        fresh();
        for (int shelf : new int[] {-1, 6, MAX, MIN}) {
            due("shelf " + shelf, x.oneMan(shelf), BAD);
        }
        for (int shelf = 0; shelf < 6; shelf++) {
            due("nothing on " + shelf, x.oneMan(shelf), -11);
        }
        for (int sort = 0; sort < 5; sort++) {
            fill(5, sort, 0, 0);
            due("a ROW of sort " + sort, x.oneMan(5), sort == 1 ? NOT : -12);
        }
        brickOn(5);
        due("a BRICK", x.oneMan(5), -12);
        shorts(5);
        due("a ROW of no element", x.oneMan(5), NOT);
    }

    private void twosAsSaid() {
        term("by twos a PLACE, a minute (0 .. 9999, not less than the one ahead)");
        fresh();
        man(NOT, 0, 0);
        man(NOT, 23, 9999);
        man(NOT, 0, 0, 23, 9999);
        for (int place : new int[] {-1, 24, 59, 60, 32767, -32768}) {
            man(0, place, 5);
            man(1, 0, 5, place, 9999);
        }
        for (int minute : new int[] {-1, 10000, 32767, -32768}) {
            man(0, 0, minute);
            man(1, 0, 0, 0, minute);
        }
        man(1, 0, 5, 0, 4);
        man(NOT, 0, 5, 0, 5);
        man(2, 0, 5, 0, 7, 0, 6);
        x.mend(0, LONG, 30);
        man(NOT, 59, 5);
        man(0, 60, 5);
        x.mend(0, LONG, 2);
        man(NOT, 3, 5);
        man(0, 4, 5);
    }

    /** What ONE MAN answers for a ROW of these. */
    private void man(int want, int... seen) {
        shorts(0, seen);
        due("oneMan of " + java.util.Arrays.toString(seen), x.oneMan(0), want);
    }

    private void twosInTime() {
        term("ONE MAN: the first two at which he cannot have come by WAYS from the one ahead in time");
        fresh();
        man(NOT, 0, 5, 2, 6);
        man(1, 0, 5, 2, 5);
        man(NOT, 0, 0, 1, 2);
        man(1, 0, 0, 1, 1);
        man(NOT, 0, 0, 23, 13);
        man(1, 0, 0, 23, 12);
        man(2, 0, 0, 2, 1, 6, 2);
        man(1, 0, 0, 4, 1, 8, 2);
        man(NOT, 0, 0, 4, 2, 4, 2, 0, 4, 0, 4);
        man(4, 0, 0, 4, 2, 4, 2, 0, 4, 2, 4);
        lawOf("99");
        man(NOT, 0, 0, 2, 99);
        man(1, 0, 0, 2, 98);
        parted(30);
        x.mend(1, ROUND, 99);
        lawOf("99");
        man(NOT, 0, 0, 1, 5841);
        man(1, 0, 0, 1, 5840);
        man(NOT, 0, 4158, 1, 9999);
        man(1, 0, 4159, 1, 9999);
    }

    private void twosWithoutWay() {
        term("(that is none, or by no WAY, too; one that is not as said, or whose end lacks, too); NOT.");
        parted(12);
        man(1, 0, 0, 1, 9999);
        man(NOT, 1, 0, 23, 9999);
        man(2, 0, 0, 22, 11, 23, 9999);
        x.hole(11);
        man(NOT, 0, 0, 22, 11, 23, 12);
        x.mend(0, OPEN, 0);
        man(2, 0, 0, 22, 11, 23, 9999);
        x.mend(0, OPEN, 1);
        x.mend(0, LONG, 11);
        man(1, 0, 0, 1, 9999);
        man(0, 22, 0);
    }

    private void twosLackingTheirEnd() {
        term("or whose end lacks, too");
        fresh();
        man(0, 0);
        man(0, 99);
        man(1, 0, 0, 0);
        man(1, 0, 0, 99);
        man(0, 99, 0, 0);
        man(2, 0, 0, 0, 0, 0);
        man(1, 0, 0, 23, 0, 0);
    }

    private void longRows() {
        term("SEEN: a ROW of shorts on a SHELF");
        fresh();
        shorts(0, new int[60]);
        due("thirty twos", x.oneMan(0), NOT);
        x.put(0, 59, -1);
        due("the last of thirty", x.oneMan(0), 29);
        x.put(0, 58, 24);
        due("the last of thirty", x.oneMan(0), 29);
        x.put(0, 30, 2);
        due("the first of them", x.oneMan(0), 15);
        shorts(0, new int[59]);
        due("the thirtieth lacks its end", x.oneMan(0), 29);
    }

    // ---- where

    private void whereRefused() {
        promise(26, "WHERE at minute m (0 .. 9999): how many (place -1), whether (place). BAD, -11, -12; STATE: m is less than the last one.");
        fresh();
        shorts(0, 0, 5);
        for (int m : new int[] {-1, 10000, MAX, MIN}) {
            due("m " + m, x.where(0, m, -1), BAD);
            due("m " + m, x.where(0, m, 0), BAD);
        }
        for (int place : new int[] {-2, 24, 60, MAX, MIN}) {
            due("place " + place, x.where(0, 5, place), BAD);
            due("BAD ahead of STATE, place " + place, x.where(0, 4, place), BAD);
            due("BAD ahead of -11, place " + place, x.where(1, 5, place), BAD);
        }
        for (int shelf : new int[] {-1, 6, MAX, MIN}) {
            due("shelf " + shelf, x.where(shelf, 5, -1), BAD);
        }
        for (int sort = 0; sort < 5; sort++) {
            fill(5, sort, 0, 0);
            due("a ROW of sort " + sort, x.where(5, 0, 0), sort == 1 ? 1 : -12);
            due("BAD ahead of -12", x.where(5, -1, 0), BAD);
        }
        due("nothing", x.where(2, 0, 0), -11);
        brickOn(2);
        due("a BRICK", x.where(2, 0, 0), -12);
    }

    private void whereWithin() {
        term("WHERE: how many PLACES he may be in at minute m (no less than the last one told; 0: not ONE MAN); whether (1, 0) a PLACE is one of them.");
        fresh();
        shorts(0, 4, 7, 0, 9);
        due("at the last one told", x.where(0, 9, -1), 1);
        due("there", x.where(0, 9, 0), 1);
        due("not at the one ahead", x.where(0, 9, 4), 0);
        due("there again two minutes on", x.where(0, 11, 4), 1);
        due("a minute on", x.where(0, 10, -1), 2);
        due("just there", x.where(0, 10, 2), 1);
        due("not yet", x.where(0, 10, 1), 0);
        due("just round", x.where(0, 11, 1), 1);
        due("all but one", x.where(0, 21, -1), 23);
        due("all", x.where(0, 22, -1), 24);
        due("the last PLACE not yet", x.where(0, 21, 23), 0);
        due("the last PLACE", x.where(0, 22, 23), 1);
        shorts(0, 0, 0, 22, 11);
        due("at the last PLACE told", x.where(0, 11, 22), 1);
        due("not at the first", x.where(0, 11, 0), 0);
        due("beside it", x.where(0, 12, 20), 1);
        shorts(0, 0, 9999);
        due("told at 9999", x.where(0, 9999, -1), 1);
        due("there", x.where(0, 9999, 0), 1);
        due("nowhere else", x.where(0, 9999, 2), 0);
        shorts(0, 0, 0);
        due("at 0", x.where(0, 0, -1), 1);
        due("all by 9999", x.where(0, 9999, -1), 24);
        parted(12);
        shorts(0, 0, 0);
        due("his SIDE alone by 9999", x.where(0, 9999, -1), 12);
        due("there is no WAY however long", x.where(0, 9999, 1), 0);
    }

    private void whereTooSoon() {
        promise(26, "STATE: m is less than the last one.");
        fresh();
        shorts(0, 0, 5);
        due("one less", x.where(0, 4, -1), STATE);
        due("one less", x.where(0, 4, 0), STATE);
        due("just so", x.where(0, 5, -1), 1);
        due("0", x.where(0, 0, -1), STATE);
        shorts(0, 0, 5, 0, 9999);
        due("9998", x.where(0, 9998, 0), STATE);
        due("more than the first alone", x.where(0, 6, 0), STATE);
        due("9999", x.where(0, 9999, 0), 1);
    }

    private void whereNotOneMan() {
        term("(no less than the last one told; 0: not ONE MAN)");
        fresh();
        int[][] rows = {{0, 5, 23, 6}, {24, 6}, {-1, 6}, {0, 5, 0, 4}, {0, -1}, {0}, {0, 6, 0}, {0, 6, 0, 6, 23}};
        for (int[] row : rows) {
            shorts(0, row);
            String call = "where of " + java.util.Arrays.toString(row);
            due(call + ", how many", x.where(0, 6, -1), 0);
            due(call + ", whether", x.where(0, 6, 0), 0);
            due(call + ", at 9999", x.where(0, 9999, -1), 0);
        }
        shorts(0, 0, 6, 0);
        due("the last two lacks its end: no minute is less", x.where(0, 0, -1), 0);
        due("the last two lacks its end: no minute is less", x.where(0, 0, 0), 0);
    }

    private void whereNothingSeen() {
        term("how many PLACES he may be in at minute m");
        for (int yards : new int[] {2, 30}) {
            longAs(yards);
            shorts(0);
            due("anywhere at 0", x.where(0, 0, -1), 2 * yards);
            due("anywhere at 9999", x.where(0, 9999, -1), 2 * yards);
            due("in the last PLACE", x.where(0, 0, 2 * yards - 1), 1);
            due("in no PLACE that is not there", x.where(0, 0, 2 * yards), BAD);
        }
    }

    // ---- drawn

    private void drawnRefused() {
        promise(27, "DRAWN: where (what 0), how many (1). BAD.");
        fresh();
        for (int place : new int[] {-1, 24, 60, MAX, MIN}) {
            due("place " + place, x.drawn(place, 1, 1, 0), BAD);
        }
        for (int n : new int[] {-1, 0, 201, MAX, MIN}) {
            due("n " + n, x.drawn(0, 1, n, 0), BAD);
            due("n " + n, x.drawn(0, 1, n, 1), BAD);
        }
        for (int what : new int[] {-1, 2, MAX, MIN}) {
            due("what " + what, x.drawn(0, 1, 1, what), BAD);
        }
        due("200 steps from the last PLACE", x.drawn(23, 1, 200, 1) > 1 ? 1 : 0, 1);
    }

    /** Four PLACES in a ring, worked out by longs that are cut to 32 bits. */
    private void drawnByRing() {
        term("DRAWN: n steps (1 .. 200) from a PLACE by a SEED: z = z * 1103515245 + 12345 (an int; SEED at first) ahead of each");
        longAs(2);
        int[][] next = {{1, 2}, {0, 3}, {0, 3}, {1, 2}};
        for (int seed : new int[] {0, 1, 2, 77, -1, -2, MAX, MIN, MAX - 1, MIN + 1, 1 << 16, 1103515245}) {
            for (int n : new int[] {1, 2, 3, 199, 200}) {
                long z = seed & 0xffffffffL;
                int at = 3;
                boolean[] was = {false, false, false, true};
                int many = 1;
                for (int i = 0; i < n; i++) {
                    z = (z * 1103515245L + 12345) & 0xffffffffL;
                    at = next[at][(int) ((z >> 8) % 2)];
                    many += was[at] ? 0 : 1;
                    was[at] = true;
                }
                due("seed " + seed + ", n " + n, x.drawn(3, seed, n, 0), at);
                due("seed " + seed + ", n " + n + ", the first, too", x.drawn(3, seed, n, 1), many);
            }
        }
    }

    private void drawnEachOnce() {
        term("of all PLACES to which there is a STEP (each once, by numbers) the ((z >>> 8) % how many)-th");
        parted(3);
        x.hole(1);
        x.hole(1);
        x.lane(203);
        x.lane(200);
        x.lane(304);
        // from 2: to 0, 3, 4
        int[] next = {0, 3, 4};
        for (int seed = -20; seed < 20; seed++) {
            long z = ((seed & 0xffffffffL) * 1103515245L + 12345) & 0xffffffffL;
            due("seed " + seed, x.drawn(2, seed, 1, 0), next[(int) ((z >> 8) % 3)]);
        }
        parted(2);
        due("one STEP only, there and back", x.drawn(0, 5, 200, 0), 0);
        due("one STEP only, there", x.drawn(0, 5, 199, 0), 2);
        due("two PLACES", x.drawn(0, 5, 200, 1), 2);
        due("two PLACES in one step", x.drawn(0, 5, 1, 1), 2);
        parted(30);
        due("one STEP from the last PLACE", x.drawn(59, 5, 1, 0), 57);
        due("two PLACES of sixty", x.drawn(59, 5, 1, 1), 2);
    }

    // ---- go, dig, turn

    private void goRefused() {
        promise(28, "GO: the minutes. BAD; NOT: there is no WAY.");
        parted(12);
        for (int place : new int[] {-1, 24, 60, MAX, MIN}) {
            due("place " + place, x.go(place), BAD);
        }
        due("no WAY", x.go(1), NOT);
        due("one stands where one stood", x.led(3), 0);
        due("no minute is over", x.led(0), 0);
        due("no going", x.led(1), 0);
        x.go(22);
        x.mend(0, LONG, 11);
        due("from no PLACE that is there", x.go(0), NOT);
        due("nor to where one stands", x.go(22), BAD);
        x.mend(0, LONG, 12);
        due("there again", x.go(0), 11);
    }

    private void goings() {
        term("one stands at PLACE 0: GO to a PLACE by the WAY: NOW goes on by its minutes");
        fresh();
        due("PLACE 0", x.led(3), 0);
        due("to where one stands", x.go(0), 0);
        due("is a going", x.led(1), 1);
        due("of no minute", x.led(0), 0);
        due("to the last PLACE", x.go(23), 13);
        due("back", x.go(0), 13);
        due("minutes", x.led(0), 26);
        due("goings", x.led(1), 3);
    }

    private void digsRefused() {
        promise(29, "DIG a HOLE: its number. FULL. STATE: one stands in no YARD that is there.");
        fresh();
        x.go(23);
        x.mend(0, LONG, 11);
        due("in no YARD that is there", x.digs(), STATE);
        due("none dug", x.led(2), 0);
        due("no HOLE", x.count(0), 0);
        due("no minute", x.led(0), 13);
        x.mend(0, LONG, 12);
        for (int h = 0; h < 12; h++) {
            due("the " + h + "th", x.digs(), h);
        }
        due("FULL", x.digs(), FULL);
        due("twelve dug", x.led(2), 12);
        due("minutes", x.led(0), 13 + 720);
        x.mend(0, LONG, 11);
        due("FULL ahead of STATE", x.digs(), FULL);
    }

    private void diggings() {
        term("DIG a HOLE in its YARD (NOW 60 more)");
        parted(12);
        x.hole(5);
        due("its number, as they come", x.digs(), 1);
        due("60 more", x.led(0), 60);
        due("in YARD 0", x.of(1, 12), 0);
        due("OPEN", x.of(1, OPEN), 1);
        due("DEEP 1", x.go(1), 1);
        x.go(23);
        due("in the last YARD", x.digs(), 2);
        due("in the last YARD", x.of(2, 12), 11);
        due("one told is not dug", x.led(2), 2);
    }

    private void turnRefused() {
        promise(30, "SHUT (open 0), OPEN (1) a HOLE: what it was. BAD; STATE: it is not in the YARD, or one stands beyond LONG.");
        fresh();
        due("no HOLE", x.turn(0, 0), BAD);
        x.hole(1);
        for (int hole : new int[] {-1, 1, 11, 12, MAX, MIN}) {
            due("hole " + hole, x.turn(hole, 0), BAD);
        }
        for (int open : new int[] {-1, 2, MAX, MIN}) {
            due("BAD ahead of STATE, open " + open, x.turn(0, open), BAD);
        }
        due("not in the YARD", x.turn(0, 0), STATE);
        due("OPEN still", x.of(0, OPEN), 1);
        due("no minute", x.led(0), 0);
        x.go(4);
        due("not in the YARD behind it", x.turn(0, 0), STATE);
        x.hole(11);
        x.go(22);
        x.mend(0, LONG, 11);
        due("beyond LONG, in its YARD", x.turn(1, 0), STATE);
        due("OPEN still", x.of(1, OPEN), 1);
        x.mend(0, LONG, 12);
        due("there again", x.turn(1, 0), 1);
    }

    private void turnings() {
        term("SHUT, OPEN a HOLE of its YARD (1 more)");
        parted(12);
        x.hole(0);
        x.mend(0, DEEP, 9);
        due("SHUT", x.turn(0, 0), 1);
        due("1 more", x.led(0), 1);
        due("shut", x.go(1), NOT);
        due("SHUT, what it was", x.turn(0, 0), 0);
        due("OPEN", x.turn(0, 1), 0);
        due("OPEN, what it was", x.turn(0, 1), 1);
        due("through", x.go(1), 9);
        due("from SIDE 1 as well", x.turn(0, 0), 1);
        due("no way back", x.go(0), NOT);
    }

    private void ledRefused() {
        promise(31, "LED: minutes (what 0), goings (1), HOLES dug (2), PLACE (3). BAD.");
        fresh();
        for (int what : new int[] {-1, 4, 5, MAX, MIN}) {
            due("what " + what, x.led(what), BAD);
        }
        for (int what = 0; what < 4; what++) {
            due("0 at first", x.led(what), 0);
        }
    }

    // ---- images

    private void imageNone() {
        promise(33, "It is laid back: minutes. STATE: there is none.");
        fresh();
        x.go(5);
        x.lend(1, 5);
        due("none", x.back(), STATE);
        due("one stands where one stood", x.led(3), 5);
        due("BRICKS", x.bricks(1, 1), 5);
        promise(32, "AN IMAGE is kept: minutes.");
        due("of a new object", fresh().image(), 0);
        due("0 is laid back", x.back(), 0);
        due("and again", x.back(), 0);
    }

    private void imageKeeps() {
        term("AN IMAGE keeps where one stands, BRICKS, what LED tells.");
        fresh();
        x.image();
        x.go(1);
        x.digs();
        for (int ab = 1; ab < 60; ab++) {
            x.lend(ab, 9);
        }
        x.mend(0, THICK, 9);
        x.feed('7');
        x.body(0);
        x.row(0, 0, 1);
        due("the first image", x.back(), 0);
        for (int what = 0; what < 4; what++) {
            due("led(" + what + ")", x.led(what), 0);
        }
        for (int one = 0; one < 6; one++) {
            due("nothing is lent by " + one, x.bricks(one == 0 ? 5 : 10 * one, 1), 0);
        }
        due("HOLES stay", x.count(0), 1);
        due("THICK stays", x.of(0, THICK), 9);
        due("CHANGES stay", x.count(3), 1);
        due("THE TAPE stays", x.count(2), 1);
        due("BODIES stay", x.count(4), 1);
        due("SHELVES stay", x.element(0, 0), 0);
        x.lend(54, 99);
        x.go(2);
        due("a second image", x.image(), 1);
        x.lend(54, -99);
        x.go(23);
        due("the second one is laid back", x.back(), 1);
        due("its BRICKS", x.bricks(54, 1), 99);
        due("its PLACE", x.led(3), 2);
        x.lend(54, 1);
        x.go(4);
        due("it is not the object's own row", x.back(), 1);
        due("its BRICKS", x.bricks(54, 1), 99);
        due("its goings", x.led(1), 1);
    }

    private void imageBeyondLong() {
        term("one stands at PLACE 0");
        fresh();
        x.go(23);
        x.image();
        x.go(0);
        x.mend(0, LONG, 2);
        due("an image from beyond LONG", x.back(), 13);
        due("PLACE", x.led(3), 23);
        due("there is no WAY", x.go(0), NOT);
        due("no YARD that is there", x.digs(), STATE);
    }

    // ---- undo, redo

    private void undoNone() {
        promise(34, "UNDONE: how many may still be. STATE: none.");
        fresh();
        due("none", x.undo(), STATE);
        x.mend(0, WARM, 1);
        due("the only one", x.undo(), 0);
        due("none", x.undo(), STATE);
        due("none again", x.undo(), STATE);
        due("as it was", x.of(0, WARM), 50);
        promise(35, "DONE AGAIN: how many may still be. STATE: none.");
        due("what was UNDONE may be still", x.redo(), 0);
        due("none", x.redo(), STATE);
        due("done", x.of(0, WARM), 1);
    }

    private void undoEachNumber() {
        term("CHANGES (all numbers of mend(); telling the same number is none) can be UNDONE, the latest first, and DONE AGAIN");
        fresh();
        x.hole(0);
        x.lane(1);
        int[] before = {4, 50, -1, 1, 1, 1, 1, 2, 12, 3, 1, 3};
        int[] after = {9, 99, 5, 0, 9, 0, 9, 99, 30, 30, 9, 99};
        for (int what = 0; what < 12; what++) {
            x.mend(0, what, after[what]);
            due("a CHANGE of what " + what, x.count(3), what + 1);
        }
        for (int what = 11; what >= 0; what--) {
            due("UNDONE, what " + what, x.undo(), what);
            due("as it was, what " + what, x.of(0, what), before[what]);
        }
        for (int what = 0; what < 12; what++) {
            due("DONE AGAIN, what " + what, x.redo(), 11 - what);
            due("as it became, what " + what, x.of(0, what), after[what]);
        }
        due("all may be UNDONE again", x.count(3), 12);
    }

    private void noChanges() {
        term("deeds, BRICKS are none");
        fresh();
        x.hole(0);
        x.lane(1);
        x.go(2);
        x.digs();
        x.turn(1, 0);
        x.lend(1, 9);
        x.image();
        x.go(0);
        x.back();
        lawOf("7");
        x.body(0);
        x.keep(0, 0);
        x.row(1, 0, 3);
        x.put(1, 0, 5);
        due("none", x.undo(), STATE);
        x.mend(0, OPEN, 0);
        x.undo();
        x.turn(1, 1);
        x.lend(1, 9);
        x.go(4);
        due("none came behind", x.redo(), 0);
        due("done again", x.of(0, OPEN), 0);
        x.go(0);
        x.turn(0, 1);
        due("a deed between", x.undo(), 0);
        due("what it was ahead of the CHANGE", x.of(0, OPEN), 1);
    }

    private void sameNumber() {
        term("telling the same number is none");
        fresh();
        x.hole(0);
        x.lane(1);
        for (int what = 0; what < 12; what++) {
            due("the same, what " + what, x.mend(0, what, x.of(0, what)), x.of(0, what));
        }
        due("none", x.count(3), 0);
        x.mend(0, WARM, 1);
        x.mend(0, WARM, 2);
        x.undo();
        x.mend(0, WARM, 1);
        due("the same as it is now is none", x.redo(), 0);
        due("done again", x.of(0, WARM), 2);
        x.undo();
        x.mend(0, WARM, 2);
        due("what could be DONE AGAIN, told anew, is another one", x.redo(), STATE);
        due("it can be UNDONE", x.undo(), 1);
    }

    private void fortyAtMost() {
        term("40 at most are kept");
        for (int many : new int[] {39, 40, 41, 80, 99}) {
            fresh();
            for (int i = 0; i < many; i++) {
                x.mend(0, WARM, i);
            }
            int kept = Math.min(many, 40);
            due("of " + many, x.count(3), kept);
            for (int i = kept - 1; i >= 0; i--) {
                due("UNDONE", x.undo(), i);
            }
            due("none", x.undo(), STATE);
            due("as it was ahead of the first that is kept", x.of(0, WARM), many <= 40 ? 50 : many - 41);
            for (int i = kept - 1; i >= 0; i--) {
                due("DONE AGAIN", x.redo(), i);
            }
            due("none", x.redo(), STATE);
            due("as it was", x.of(0, WARM), many - 1);
            due("one more", x.mend(0, WARM, 99), many - 1);
            due("40 at most still", x.count(3), Math.min(many + 1, 40));
        }
    }

    /** Three rounds over YARDS 0 .. 14, each round THICK, WARM or OWNER of a YARD by 1 more than it was. */
    private void fortyOfManyKinds() {
        term("can be UNDONE, the latest first, and DONE AGAIN (as long as no other came behind); 40 at most are kept");
        int[] atFirst = {4, 50, -1};
        fresh();
        for (int i = 0; i < 45; i++) {
            due("the " + i + "th", x.mend(i % 15, i % 3, atFirst[i % 3] + 1 + i / 15), atFirst[i % 3] + i / 15);
        }
        due("of 45", x.count(3), 40);
        for (int i = 44; i >= 5; i--) {
            due("UNDONE", x.undo(), i - 5);
            due("the " + i + "th", x.of(i % 15, i % 3), atFirst[i % 3] + i / 15);
        }
        due("the fifth is forgotten", x.undo(), STATE);
        due("and stays", x.of(4, WARM), 51);
        for (int i = 5; i < 45; i++) {
            due("DONE AGAIN", x.redo(), 44 - i);
            due("the " + i + "th", x.of(i % 15, i % 3), atFirst[i % 3] + 1 + i / 15);
        }
    }

    private void redoNone() {
        promise(35, "STATE: none.");
        fresh();
        due("none", x.redo(), STATE);
        x.mend(0, WARM, 1);
        due("none was UNDONE", x.redo(), STATE);
        x.undo();
        due("one", x.redo(), 0);
        due("no second", x.redo(), STATE);
        due("it may be UNDONE again", x.undo(), 0);
        due("and DONE AGAIN", x.redo(), 0);
    }

    private void anotherCameBehind() {
        term("DONE AGAIN (as long as no other came behind)");
        fresh();
        x.mend(0, WARM, 1);
        x.mend(0, WARM, 2);
        x.mend(0, WARM, 3);
        x.undo();
        x.undo();
        due("a refused one is none", x.mend(0, WARM, 100), VOID);
        due("DONE AGAIN", x.redo(), 1);
        x.mend(1, WARM, 9);
        due("another came behind", x.redo(), STATE);
        due("how many may be UNDONE", x.count(3), 3);
        due("the latest first", x.undo(), 2);
        due("the other one", x.of(1, WARM), 50);
        due("then those ahead", x.undo(), 1);
        due("the second", x.of(0, WARM), 1);
        fresh();
        for (int i = 0; i < 40; i++) {
            x.mend(0, WARM, i);
        }
        for (int i = 0; i < 40; i++) {
            x.undo();
        }
        x.mend(0, WARM, 99);
        due("one in place of forty", x.count(3), 1);
        due("none DONE AGAIN", x.redo(), STATE);
        due("UNDONE", x.undo(), 0);
        due("as it was at first", x.of(0, WARM), 50);
    }

    /** 471 calls, forty UNDONE, and the last one. */
    private void lastCallOfAll() {
        foreword("An object is used for at most 512 calls after it has been made");
        fresh();
        for (int i = 0; i < 471; i++) {
            x.mend(i % 30, i % 2, 1 + (i + i / 30) % 9);
        }
        for (int i = 39; i >= 0; i--) {
            due("undo", x.undo(), i);
        }
        due("the 512th call", x.undo(), STATE);
    }
}
