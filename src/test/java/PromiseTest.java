/** Each promise of the document by hand: ordinary inputs, the edges that it names, wrong inputs. */
public final class PromiseTest extends Trial {
    public static void main(String[] args) {
        new PromiseTest().test();
    }

    private void test() {
        newObject();
        holes();
        lanes();
        mending();
        mendingRefused();
        yardsFromRows();
        yardsRefused();
        yardsFromNoPlace();
        tape();
        lawsRead();
        lawsFaulty();
        lawsWorkedOut();
        waysAndFar();
        waysOfAll();
        reaching();
        widestAndDig();
        sparing();
        pacing();
        meeting();
        newsHeard();
        whence();
        frost();
        taxes();
        lending();
        rings();
        oneMan();
        where();
        whereNotOneMan();
        drawn();
        going();
        digging();
        turning();
        images();
        undoing();
        acts();
        keeping();
        rows();
        shifting();
        taking();
        counting();
        check.end();
    }

    // ---- 1: a new object

    private void newObject() {
        fresh();
        int[] first = {4, 50, -1};
        for (int what = THICK; what <= OWNER; what++) {
            for (int y = 0; y < 30; y++) {
                due("1 of(" + y + ", " + what + ")", x.of(y, what), first[what]);
            }
        }
        due("1 ROUND 0", x.of(0, ROUND), 2);
        due("1 ROUND 1", x.of(1, ROUND), 2);
        due("1 LONG", x.of(0, LONG), 12);
        due("1 TELLS", x.of(0, TELLS), 3);
        due("1 COLD", x.of(0, COLD), 1);
        due("1 RATE", x.of(0, RATE), 3);
        for (int what = 0; what < 6; what++) {
            due("1 count(" + what + ")", x.count(what), 0);
        }
        for (int what = 0; what < 4; what++) {
            due("1 led(" + what + ")", x.led(what), 0);
        }
        for (int shelf = 0; shelf < 6; shelf++) {
            due("1 element(" + shelf + ", 0)", x.element(shelf, 0), NONE);
            due("1 taken(" + shelf + ", 0)", x.taken(shelf, 0), -11);
        }
        due("1 trace(0)", x.trace(0), BAD);
        due("1 a step without a law", x.way(2, 0), 1);
    }

    // ---- 2, 3: holes and lanes

    private void holes() {
        fresh();
        due("2 hole(-1)", x.hole(-1), BAD);
        due("2 hole(12)", x.hole(12), BAD);
        due("2 hole(max)", x.hole(Integer.MAX_VALUE), BAD);
        due("2 hole(min)", x.hole(Integer.MIN_VALUE), BAD);
        for (int h = 0; h < 12; h++) {
            due("2 hole(" + (11 - h) + ")", x.hole(11 - h), h);
            due("2 its YARD", x.of(h, 12), 11 - h);
            due("2 OPEN at first", x.of(h, OPEN), 1);
            due("2 DEEP at first", x.of(h, DEEP), 1);
        }
        due("2 a thirteenth", x.hole(0), FULL);
        due("2 BAD ahead of FULL", x.hole(12), BAD);
        due("2 count", x.count(0), 12);
        longAs(3);
        due("2 beyond LONG", x.hole(3), BAD);
        due("2 the last one", x.hole(2), 0);
        due("2 two in one YARD", x.hole(2), 1);
        x.mend(0, LONG, 2);
        due("2 one not there is kept", x.count(0), 2);
        due("2 and mended", x.mend(0, DEEP, 5), 1);
    }

    private void lanes() {
        fresh();
        due("3 to itself", x.lane(505), BAD);
        due("3 lane(-1)", x.lane(-1), BAD);
        due("3 lane(24)", x.lane(24), BAD);
        due("3 lane(2400)", x.lane(2400), BAD);
        due("3 lane(max)", x.lane(Integer.MAX_VALUE), BAD);
        for (int l = 0; l < 12; l++) {
            due("3 lane", x.lane(100 * (l + 1) + 23 - l), l == 11 ? BAD : l);
        }
        due("3 the twelfth", x.lane(2322), 11);
        due("3 a thirteenth", x.lane(1), FULL);
        due("3 BAD ahead of FULL", x.lane(0), BAD);
        due("3 the one", x.of(3, 13), 4);
        due("3 the other", x.of(3, 14), 20);
        due("3 OPEN at first", x.of(11, LANE_OPEN), 1);
        due("3 WIDE at first", x.of(11, WIDE), 1);
        due("3 count", x.count(1), 12);
    }

    // ---- 4, 5: mend and of

    private void mending() {
        int[] least = {1, 0, -1, 0, 1, 0, 1, 0, 2, 1, 0, 0};
        int[] most = {9, 99, 5, 1, 9, 1, 9, 99, 30, 30, 9, 99};
        int[] numbers = {30, 30, 30, 2, 2, 3, 3, 2, 1, 1, 1, 1};
        for (int what = 0; what < 12; what++) {
            fresh();
            x.hole(0);
            x.hole(1);
            x.lane(1);
            x.lane(2);
            x.lane(3);
            for (int number = 0; number < numbers[what]; number++) {
                String call = "4 what " + what + " of " + number;
                int was = x.of(number, what);
                due(call + " below", x.mend(number, what, least[what] - 1), VOID);
                due(call + " above", x.mend(number, what, most[what] + 1), VOID);
                due(call + " as it was", x.of(number, what), was);
                due(call + " least", x.mend(number, what, least[what]), was);
                due(call + " is least", x.of(number, what), least[what]);
                due(call + " most", x.mend(number, what, most[what]), least[what]);
                due(call + " is most", x.of(number, what), most[what]);
            }
            due("4 one more", x.mend(numbers[what], what, least[what]), VOID);
            due("4 one less", x.mend(-1, what, least[what]), VOID);
            due("5 one more", x.of(numbers[what], what), VOID);
            due("5 one less", x.of(-1, what), VOID);
        }
    }

    private void mendingRefused() {
        fresh();
        x.hole(3);
        x.lane(7);
        for (int what : new int[] {-1, 12, 13, 14, 15, Integer.MAX_VALUE, Integer.MIN_VALUE}) {
            due("4 what " + what, x.mend(0, what, 1), VOID);
        }
        for (int what : new int[] {-1, 15, Integer.MAX_VALUE, Integer.MIN_VALUE}) {
            due("5 what " + what, x.of(0, what), VOID);
        }
        due("5 YARD of HOLE 1", x.of(1, 12), VOID);
        due("5 PLACE of LANE 1", x.of(1, 13), VOID);
        due("5 PLACE of LANE 1", x.of(1, 14), VOID);
        due("5 YARD", x.of(0, 12), 3);
        due("5 PLACE", x.of(0, 13), 0);
        due("5 PLACE", x.of(0, 14), 7);
        x.mend(20, THICK, 7);
        x.mend(0, LONG, 5);
        due("4 YARDS beyond LONG keep what they have", x.of(20, THICK), 7);
        due("4 and are mended", x.mend(20, THICK, 2), 7);
    }

    // ---- 6: yards from rows

    private void yardsFromRows() {
        fresh();
        due("6 a SHELF that holds nothing", x.yards(0, 0, 1), 0);
        bytes(0, 3, 40, 0, 9, 70, -1, 5, 20);
        due("6 ends within a three", x.yards(0, 0, 1003), 2);
        due("6 THICK", x.of(10, THICK), 3);
        due("6 WARM", x.of(10, WARM), 40);
        due("6 OWNER", x.of(10, OWNER), 0);
        due("6 THICK of the next", x.of(11, THICK), 9);
        due("6 OWNER nobody", x.of(11, OWNER), -1);
        due("6 the cut one is not touched", x.of(12, THICK), 4);
        due("6 each other number is a CHANGE", x.count(3), 5);
        due("6 the same again", x.yards(0, 0, 1002), 2);
        due("6 is no CHANGE", x.count(3), 5);
        x.undo();
        due("6 the latest first", x.of(11, WARM), 50);
        due("6 the others stay", x.of(11, THICK), 9);
        fresh();
        bytes(0, 3, 40, 0, 9, 70, -1, 5, 20, 1);
        due("6 no more than n", x.yards(0, 0, 2), 2);
        due("6 the third stays", x.of(2, THICK), 4);
        due("6 from a place on", x.yards(0, 6, 2930), 1);
        due("6 beyond LONG", x.of(29, WARM), 20);
        due("6 no YARD 30", x.yards(0, 0, 2803), 2);
        due("6 at the end", x.yards(0, 9, 1), 0);
        due("6 behind the end", x.yards(0, Integer.MAX_VALUE, 1), 0);
        bytes(1, 3, 40, 0, 3, 100, 0, 3, 40, 0);
        due("6 one is not so", x.yards(1, 0, 503), 1);
        due("6 nothing of it", x.of(6, THICK), 4);
        bytes(1, 0, 40, 0);
        due("6 THICK 0", x.yards(1, 0, 1), 0);
        bytes(1, 3, 40, 6);
        due("6 OWNER 6", x.yards(1, 0, 1), 0);
        bytes(1, 3, 40, -2);
        due("6 OWNER -2", x.yards(1, 0, 1), 0);
        bytes(1, 10, 40, 1);
        due("6 THICK 10", x.yards(1, 0, 1), 0);
        bytes(1, 3, -1, 1);
        due("6 WARM -1", x.yards(1, 0, 1), 0);
    }

    private void yardsRefused() {
        fresh();
        bytes(0, 3, 40, 0);
        due("6 shelf -1", x.yards(-1, 0, 1), BAD);
        due("6 shelf 6", x.yards(6, 0, 1), BAD);
        due("6 n 0", x.yards(0, 0, 0), BAD);
        due("6 n 31", x.yards(0, 0, 31), BAD);
        due("6 y 30", x.yards(0, 0, 3001), BAD);
        due("6 yn -1", x.yards(0, 0, -1), BAD);
        due("6 BAD ahead of missing", x.yards(1, 0, 0), BAD);
        x.row(1, 1, 3);
        due("6 shorts", x.yards(1, 0, 1), -12);
        x.body(0);
        x.keep(1, 0);
        due("6 a BRICK", x.yards(1, 0, 1), -12);
        x.keep(1, -1);
        due("6 nothing again", x.yards(1, 0, 1), 0);
    }

    /** No bounds are told for the place i: it is never BAD, the row only ends there. */
    private void yardsFromNoPlace() {
        fresh();
        for (int i : new int[] {-1, -2, -3, -4, 3, Integer.MIN_VALUE, Integer.MAX_VALUE}) {
            due("6 missing, from " + i, x.yards(0, i, 1), 0);
        }
        bytes(0, 3, 40, 0, 5, 20, 1);
        for (int i : new int[] {-1, -2, -3, -4, 6, 7, Integer.MIN_VALUE, Integer.MAX_VALUE}) {
            due("6 ends ahead of its first YARD, from " + i, x.yards(0, i, 3), 0);
        }
        due("6 nothing of it", x.count(3), 0);
        due("6 n 0 from -1", x.yards(0, -1, 0), BAD);
        due("6 shelf 6 from -1", x.yards(6, -1, 1), BAD);
        x.row(1, 1, 3);
        due("6 shorts from -1", x.yards(1, -1, 1), -12);
        x.body(0);
        x.keep(1, 0);
        due("6 a BRICK from -1", x.yards(1, -1, 1), -12);
    }

    // ---- 7, 8: the tape and the law

    private void tape() {
        fresh();
        due("7 feed(-1)", x.feed(-1), BAD);
        due("7 feed(256)", x.feed(256), BAD);
        due("7 feed(0)", x.feed(0), 1);
        due("7 feed(255)", x.feed(255), 2);
        due("7 count", x.count(2), 2);
        due("8 a byte 0 starts no TEXT", x.law(), -100);
        due("8 empty then", x.count(2), 0);
        for (int i = 0; i < 120; i++) {
            due("7 feed", x.feed(i % 2 == 0 ? '1' : '+'), i + 1);
        }
        due("7 FULL", x.feed('1'), FULL);
        due("7 BAD ahead of FULL", x.feed(256), BAD);
        due("8 ends too early", x.law(), -220);
        due("8 an empty TEXT", x.law(), -100);
    }

    private void lawsRead() {
        for (String text : new String[] {"1", "9999", "0000", "t", "w", "o", "s", "y", "d", "!t", "-t", "(t)",
            "1<2", "1=2", "1>2", "1|2|3&4&5", "1+2-3*4/5%6", "1--1", "1-!1", "((((((1))))))", "!!!!!!1", "-(-(-(1)))", "1?((((((1))))))", "((((((1))))))?1", "!(-(!(1)))",
            "(1<2)<3", "1<2|3<4", "1<2&3<4", "t?1", "t?1;2", "1;2;3", "1<2?3<4;5<6?7<8", "(1)-(2)", "(!t)+(!t)",
            "------1*------1"}) {
            fresh();
            due("8 " + text, lawOf(text), 1);
            due("8 empty then", x.count(2), 0);
        }
    }

    private void lawsFaulty() {
        String[] texts = {"", "+", "1+", "1<2<3", "1<2=3", "12345", "t t", "tw", "t1", "1t", ")", "(", "(1", "(1))",
            "()", "1;", ";1", "1;;2", "1?", "1?2?3", "(1?2)", "(1;2)", "?1", "x", "1 ", "T", "1!2", "(((((((1)))))))",
            "!!!!!!!1", "-------1", "!(-(!(-1)))", "!(-(!((1))))", "1==2", "1<>2", "1**2", "1*-2",
            "1*+2", "(1<2<3)", "1?2;3?", "1?2;3?4?5"};
        int[] faults = {0, 0, 2, 3, 3, 4, 1, 1, 1, 1, 0, 1, 2, 3,
            1, 2, 0, 2, 2, 3, 2, 2, 0, 0, 1, 0, 1, 6,
            6, 6, 6, 6, 2, 2, 2, -1,
            2, 4, 6, 7};
        for (int i = 0; i < texts.length; i++) {
            fresh();
            lawOf("7");
            due("8 " + texts[i], lawOf(texts[i]), faults[i] < 0 ? 1 : -100 - faults[i]);
            due("8 empty then", x.count(2), 0);
            if (faults[i] >= 0) {
                due("8 the law stays as it was", x.way(2, 0), 7);
            }
        }
    }

    /** The minutes from PLACE 0 to the next one by a law, THICK 4, WARM 50, OWNER -1. */
    private void step(String text, int minutes) {
        fresh();
        due("8 " + text, lawOf(text), 1);
        due("8 worked out: " + text, x.way(2, 0), minutes);
    }

    private void lawsWorkedOut() {
        step("t", 4);
        step("w", 50);
        step("-o+1", 2);
        step("s+5", 5);
        step("y+6", 6);
        step("d", 1);
        step("d*9", 9);
        step("0", 1);
        step("-9", 1);
        step("99", 99);
        step("100", 99);
        step("2+3*4", 14);
        step("(2+3)*4", 20);
        step("20-3-4", 13);
        step("20/3", 6);
        step("20%3", 2);
        step("10+-7/2", 7);
        step("10+-7%2", 9);
        step("7+5/0", 7);
        step("7+5%0", 7);
        step("5+(1<2)+(2<2)", 6);
        step("5+(3=3)*2+(3=4)", 7);
        step("5+(3>2)*3+(2>2)", 8);
        step("5+(0|7)*2", 7);
        step("5+(0|0)*2", 5);
        step("5+(3&7)*2", 7);
        step("5+(3&0)*2", 5);
        step("5+!3+!0*2", 7);
        step("1+2<4", 1);
        step("6+(1+2<4)", 7);
        step("6+(1|0&0)", 7);
        step("0?9;7", 7);
        step("2?9;7", 9);
        step("0?9;0?8", 1);
        step("0?9;-1?8;7", 8);
        step("5;6", 5);
        step("9999*9999*9999*9999-9999*9999*9999*9999+3", 3);
        // 65536 * 32768 is 2 to the 31st: it wraps to the least int
        step("2048*32*4096*8<0?21;22", 21);
        step("-(2048*32*4096*8)<0?21;22", 21);
        step("0?0;".repeat(29) + "!0+7", 8);
        fresh();
        lawOf("d?3;5");
        due("8 upward", x.way(2, 0), 3);
        due("8 downward", x.way(200, 0), 5);
        fresh();
        x.mend(0, ROUND, 0);
        lawOf("y+1+10*s");
        due("8 by the YARD from which one goes", x.way(204, 0), 2);
        due("8 downward too", x.way(402, 0), 3);
        due("8 by the SIDE", x.way(305, 0), 12);
        x.mend(1, THICK, 9);
        lawOf("t*2");
        due("8 by THICK as it is now", x.way(204, 0), 18);
        x.mend(1, THICK, 3);
        due("8 by THICK as it is now", x.way(204, 0), 6);
    }

    // ---- 9 to 14: ways

    private void waysAndFar() {
        fresh();
        due("9 to itself", x.way(707, 0), 0);
        due("9 first STEP to itself", x.way(707, 1), 7);
        due("9 along", x.way(22, 0), 11);
        due("9 first STEP", x.way(22, 1), 2);
        due("9 round", x.way(1, 0), 2);
        x.mend(0, ROUND, 1);
        due("9 round in a minute", x.way(1, 0), 1);
        x.mend(0, ROUND, 2);
        due("9 round the far end", x.way(2223, 0), 2);
        due("9 first STEP of like ones the least", x.way(1011, 1), 8);
        due("9 a pair below 0", x.way(-1, 0), BAD);
        due("9 a PLACE not there", x.way(2400, 0), BAD);
        due("9 what 2", x.way(0, 2), BAD);
        due("9 what -1", x.way(0, -1), BAD);
        x.mend(0, ROUND, 0);
        x.mend(1, ROUND, 0);
        due("9 none", x.way(1, 0), NOT);
        due("9 none", x.way(1, 1), NOT);
        due("10 how many", x.far(0, 2), 12);
        due("10 how far", x.far(0, 0), 11);
        x.hole(5);
        x.mend(0, DEEP, 9);
        due("9 through a HOLE", x.way(1, 0), 19);
        x.mend(0, OPEN, 0);
        due("9 not through a shut one", x.way(1, 0), NOT);
        x.lane(417);
        x.mend(0, WIDE, 5);
        due("9 by a LANE", x.way(417, 0), 5);
        due("9 either way", x.way(1704, 0), 5);
        due("9 first STEP", x.way(17, 1), 2);
        x.mend(0, LONG, 8);
        due("9 a LANE with an end that is not there", x.way(15, 0), NOT);
        x.mend(0, LONG, 9);
        due("9 there again", x.way(17, 0), 7);
        x.mend(0, LANE_OPEN, 0);
        due("9 a shut LANE", x.way(17, 0), NOT);
        fresh();
        x.hole(7);
        x.mend(0, LONG, 7);
        due("9 a HOLE that is not there", x.way(1213, 0), 2);
        due("10 far", x.far(0, 0), 8);
        due("10 of like ones the least", x.far(6, 1), 7);
        due("10 the farthest of PLACE 6", x.far(6, 0), 8);
        due("10 all", x.far(6, 2), 14);
        due("10 BAD place", x.far(14, 0), BAD);
        due("10 BAD place", x.far(-1, 0), BAD);
        due("10 BAD what", x.far(0, 3), BAD);
        due("10 BAD what", x.far(0, -1), BAD);
    }

    private void waysOfAll() {
        longAs(30);
        for (int i = 0; i < 12; i++) {
            x.hole(i + 1);
            x.mend(i, DEEP, 9);
            x.lane(100 * i + 40 + i);
            x.mend(i, WIDE, 9);
        }
        x.mend(0, ROUND, 1);
        x.mend(1, ROUND, 1);
        due("9 every STEP that there can be, the first end", x.way(1, 0), 1);
        due("9 and the last one", x.way(5958, 0), 1);
        due("9 either way", x.way(5859, 0), 1);
        due("9 and the last LANE", x.way(1151, 0), 9);
        due("9 and the last HOLE", x.way(2425, 0), 9);
    }

    private void reaching() {
        fresh();
        due("11 itself", x.reach(8, 0), 1 << 4);
        due("11 other SIDE", x.reach(8, 1005), 0);
        due("11 other SIDE", x.reach(8, 1006), 1);
        due("11 two minutes", x.reach(8, 2), 0b1111100);
        due("11 all", x.reach(8, 1999), 4095);
        due("11 m 1000 is SIDE 1", x.reach(9, 1000), 1 << 4);
        due("11 sm -1", x.reach(8, -1), BAD);
        due("11 SIDE 2", x.reach(8, 2000), BAD);
        due("11 place", x.reach(24, 0), BAD);
        due("11 place", x.reach(-1, 0), BAD);
        longAs(30);
        due("11 thirty YARDS", x.reach(0, 999), 0x3fffffff);
    }

    private void widestAndDig() {
        fresh();
        due("12 a ring of 26 minutes", x.widest(), 13);
        due("13 dig(-1)", x.dig(-1), BAD);
        due("13 dig(2)", x.dig(2), BAD);
        due("13 the YARD", x.dig(0), 0);
        due("13 what it is then", x.dig(1), 12);
        due("13 nothing was dug", x.count(0), 0);
        x.mend(0, ROUND, 0);
        due("12 one end", x.widest(), 24);
        due("13 beside the shut end", x.dig(0), 0);
        x.mend(1, ROUND, 0);
        due("12 NOT", x.widest(), NOT);
        due("13 in the middle", x.dig(0), 5);
        due("13 what it is then", x.dig(1), 13);
        longAs(2);
        due("12 LONG 2", x.widest(), 3);
        x.mend(1, ROUND, 0);
        for (int h = 0; h < 12; h++) {
            x.hole(0);
        }
        due("13 as well where no HOLE can come any more", x.dig(0), 1);
        due("13 what it is then", x.dig(1), 2);
    }

    private void sparing() {
        fresh();
        due("14 none OPEN", x.spare(1, 0), NOT);
        due("14 none OPEN", x.spare(1, 3), NOT);
        due("14 BAD what", x.spare(1, 4), BAD);
        due("14 BAD what", x.spare(1, -1), BAD);
        due("14 BAD place", x.spare(24, 0), BAD);
        due("14 BAD pair", x.spare(-1, 0), BAD);
        x.mend(0, ROUND, 0);
        x.mend(1, ROUND, 0);
        x.hole(11);
        x.hole(2);
        x.hole(3);
        due("14 the nearest", x.spare(1, 0), 1);
        due("14 what it is then", x.spare(1, 1), 7);
        due("14 of like ones the least", x.spare(2223, 0), 0);
        due("14 what it is then", x.spare(2223, 1), 17);
        due("14 no LANE", x.spare(1, 2), NOT);
        x.mend(0, OPEN, 0);
        x.mend(1, OPEN, 0);
        due("14 the only one", x.spare(1, 0), 2);
        due("14 none", x.spare(1, 1), 9999);
        due("14 nothing was shut", x.of(2, OPEN), 1);
        x.mend(0, LONG, 3);
        due("14 one that is not there", x.spare(1, 0), NOT);
        x.lane(1);
        x.lane(203);
        x.mend(0, LANE_OPEN, 0);
        due("14 a LANE", x.spare(1, 2), 1);
        due("14 what it is then", x.spare(1, 3), 9999);
        x.mend(0, LANE_OPEN, 1);
        due("14 LANES likewise", x.spare(1, 2), 0);
        due("14 what it is then", x.spare(1, 3), 3);
    }

    // ---- 15, 16: pacing

    private void pacing() {
        longAs(3);
        // upward from 0: 0 1 2 1 0 1 2 ..; downward from 2: 2 1 0 1 2 1 0 ..
        due("15 at minute 0", x.pace(2, 0, 0), 0);
        due("15 none yet", x.pace(2, 0, 1), NOT);
        due("15 at minute 1", x.pace(2, 1, 0), 1);
        due("15 the first time", x.pace(2, 999, 1), 1);
        due("15 every other minute", x.pace(2, 999, 0), 500);
        due("15 from one YARD", x.pace(101, 4, 0), 3);
        due("15 from one YARD", x.pace(101, 4, 1), 0);
        // downward from 0 turns at once, upward from 2 too: 2 1 0 1 2, 0 1 2 1 0
        due("15 turning at once", x.pace(200, 3, 0), 2);
        due("15 turning at once", x.pace(200, 3, 1), 1);
        due("15 BAD yard", x.pace(3, 0, 0), BAD);
        due("15 BAD yard", x.pace(300, 0, 0), BAD);
        due("15 BAD pair", x.pace(-1, 0, 0), BAD);
        due("15 BAD m", x.pace(0, -1, 0), BAD);
        due("15 BAD m", x.pace(0, 1000, 0), BAD);
        due("15 BAD what", x.pace(0, 0, 2), BAD);
        due("15 BAD what", x.pace(0, 0, -1), BAD);
    }

    private void meeting() {
        longAs(5);
        due("16 no HOLE", x.meet(4), NOT);
        x.hole(4);
        // upward from 0: 0 1 2 3 4 3 2 1 0; downward from 4: 4 3 2 1 0 1 2 3 4: both at 2 in minutes 2, 6, ..
        due("16 not there", x.meet(4), NOT);
        x.hole(2);
        due("16 there", x.meet(4), 2);
        x.mend(1, OPEN, 0);
        due("16 a shut one", x.meet(4), NOT);
        // upward from 2: 2 3 4 3 2 1; downward from 2: 2 1 0 1 2 3
        due("16 from one YARD", x.meet(202), NOT);
        x.mend(1, OPEN, 1);
        due("16 at minute 0", x.meet(202), 0);
        due("16 BAD", x.meet(5), BAD);
        due("16 BAD", x.meet(500), BAD);
        due("16 BAD", x.meet(-1), BAD);
    }

    // ---- 17 to 19: news

    private void newsHeard() {
        fresh();
        due("17 itself", x.news(303), 0);
        due("17 along", x.news(22), 33);
        due("17 through the wall", x.news(203), 4);
        due("17 both", x.news(23), 37);
        x.mend(5, THICK, 1);
        x.mend(0, TELLS, 1);
        due("17 at once", x.news(607), 4);
        x.mend(3, THICK, 9);
        due("17 by the thin one, there and back", x.news(607), 5);
        due("17 either way", x.news(706), 5);
        x.hole(3);
        x.lane(607);
        due("17 HOLES or none", x.news(607), 5);
        due("17 BAD", x.news(24), BAD);
        due("17 BAD", x.news(-1), BAD);
        fresh();
        due("18 at 0", x.heard(10, 0), 1);
        due("18 at 3", x.heard(10, 3), 3);
        due("18 at 4", x.heard(10, 4), 4);
        due("18 all", x.heard(10, 999), 24);
        due("18 the last one", x.heard(10, -1), 23);
        longAs(3);
        due("18 of like ones the greatest", x.heard(2, -1), 5);
        due("18 place", x.heard(6, 0), BAD);
        due("18 place", x.heard(-1, 0), BAD);
        due("18 m -2", x.heard(0, -2), BAD);
        due("18 m 1000", x.heard(0, 1000), BAD);
    }

    private void whence() {
        fresh();
        // told in YARD 0 SIDE 0 and heard in YARD 2 six minutes later than in YARD 0
        due("19 from behind", x.whence(4, 1016, 0), 2);
        due("19 the least", x.whence(4, 1016, 1), 0);
        due("19 no matter when", x.whence(4, 6, 0), 2);
        due("19 from between", x.whence(4, 5050, 0), 2);
        due("19 the least", x.whence(4, 5050, 1), 2);
        due("19 from the other end", x.whence(4, 600, 1), 4);
        due("19 how many", x.whence(4, 600, 0), 20);
        due("19 nobody", x.whence(4, 1, 0), 0);
        due("19 nobody", x.whence(4, 1, 1), NOT);
        due("19 one PLACE", x.whence(404, 4242, 0), 24);
        due("19 one PLACE at two minutes", x.whence(404, 4243, 0), 0);
        due("19 BAD mn", x.whence(4, -1, 0), BAD);
        due("19 BAD mn", x.whence(4, 10000, 0), BAD);
        due("19 BAD what", x.whence(4, 0, 2), BAD);
        due("19 BAD what", x.whence(4, 0, -1), BAD);
        due("19 BAD pair", x.whence(24, 0, 0), BAD);
    }

    // ---- 20 to 24: frost, taxes, bricks

    private void frost() {
        longAs(3);
        x.mend(0, COLD, 0);
        x.mend(0, WARM, 10);
        x.mend(1, WARM, 21);
        x.mend(2, WARM, 40);
        due("20 n 0", x.frost(0, 1), 21);
        due("20 at an end its own again", x.frost(1, 0), 12);
        due("20 by both beside it", x.frost(1, 1), 23);
        due("20 at the other end", x.frost(1, 2), 35);
        due("20 all by WARM as the night began", x.frost(2, 0), 14);
        due("20 nothing has changed", x.of(1, WARM), 21);
        x.mend(0, COLD, 2);
        x.mend(0, THICK, 9);
        x.mend(1, THICK, 7);
        x.mend(2, THICK, 1);
        due("20 lacks none", x.frost(1, 0), 12);
        due("20 lacks two", x.frost(1, 1), 23);
        due("20 lacks eight", x.frost(1, 2), 31);
        x.mend(1, THICK, 6);
        due("20 lacks three", x.frost(1, 1), 21);
        x.mend(0, WARM, 0);
        x.mend(1, WARM, 0);
        x.mend(2, WARM, 1);
        due("20 0 at least", x.frost(1, 2), 0);
        due("21 now", x.frozen(1), 0);
        due("21 the least YARD", x.frozen(0), 0);
        x.mend(0, WARM, 99);
        due("21 the one at 0", x.frozen(0), 1);
        due("20 night 61", x.frost(61, 0), BAD);
        due("20 night -1", x.frost(-1, 0), BAD);
        due("20 night 60", x.frost(60, 2), 0);
        due("20 beyond LONG", x.frost(0, 3), BAD);
        due("20 yard -1", x.frost(0, -1), BAD);
        due("21 what 2", x.frozen(2), BAD);
        due("21 what -1", x.frozen(-1), BAD);
        fresh();
        due("21 a degree a night", x.frozen(1), 50);
        x.mend(0, COLD, 0);
        due("21 never", x.frozen(1), NOT);
        due("21 never", x.frozen(0), NOT);
        x.mend(0, COLD, 1);
        for (int y = 0; y < 12; y++) {
            x.mend(y, WARM, 60);
        }
        due("21 the sixtieth night", x.frozen(1), 60);
        for (int y = 0; y < 12; y++) {
            x.mend(y, WARM, 61);
        }
        due("21 not within 60", x.frozen(1), NOT);
        fresh();
        x.mend(20, WARM, 0);
        due("21 one beyond LONG", x.frozen(0), 0);
    }

    private void taxes() {
        fresh();
        due("22 none", x.tax(0), 0);
        x.mend(0, OWNER, 0);
        x.mend(5, OWNER, 0);
        x.mend(11, OWNER, 5);
        x.mend(20, OWNER, 5);
        due("22 two", x.tax(0), 6);
        due("22 not beyond LONG", x.tax(5), 3);
        x.mend(5, WARM, 51);
        due("22 twice", x.tax(0), 9);
        x.mend(6, WARM, 51);
        due("22 as warm as one beside it", x.tax(0), 6);
        x.mend(6, WARM, 40);
        x.mend(4, WARM, 52);
        due("22 less warm than the other", x.tax(0), 6);
        x.mend(0, WARM, 51);
        due("22 at an end", x.tax(0), 9);
        x.mend(1, OWNER, 3);
        x.mend(2, WARM, 40);
        due("22 less warm than the first one", x.tax(3), 3);
        x.mend(10, OWNER, 4);
        x.mend(9, WARM, 40);
        x.mend(11, WARM, 50);
        due("22 as warm as the last one", x.tax(4), 3);
        x.mend(12, WARM, 99);
        x.mend(11, WARM, 51);
        due("22 at the last one", x.tax(5), 6);
        x.mend(0, RATE, 99);
        due("22 by RATE", x.tax(0), 297);
        due("22 nobody", x.tax(-1), BAD);
        due("22 owner 6", x.tax(6), BAD);
    }

    private void lending() {
        fresh();
        due("23 lend", x.lend(12, 99), 99);
        for (int i = 2; i <= 10; i++) {
            due("23 lend", x.lend(12, 99), 99 * i);
        }
        due("23 more than 999", x.lend(12, 10), STATE);
        due("23 999", x.lend(12, 9), 999);
        due("23 return", x.lend(12, -99), 900);
        due("23 none", x.lend(12, 0), 900);
        due("23 the other way is its own", x.lend(21, 5), 5);
        due("23 below 0", x.lend(21, -6), STATE);
        due("23 to 0", x.lend(21, -5), 0);
        x.lend(21, 7);
        due("24 what one owes less what it is owed", x.bricks(2, 0), 893);
        due("24 the other", x.bricks(1, 0), -893);
        due("24 lent", x.bricks(12, 1), 900);
        due("24 two owe one another: no ring of three", x.bricks(12, 2), 900);
        due("23 to itself", x.lend(11, 1), BAD);
        due("23 b 6", x.lend(6, 1), BAD);
        due("23 a 6", x.lend(60, 1), BAD);
        due("23 ab -1", x.lend(-1, 1), BAD);
        due("23 n 100", x.lend(12, 100), BAD);
        due("23 n -100", x.lend(12, -100), BAD);
        due("24 what 3", x.bricks(12, 3), VOID);
        due("24 what -1", x.bricks(12, -1), VOID);
        due("24 owner 6", x.bricks(6, 0), VOID);
        due("24 owner -1", x.bricks(-1, 0), VOID);
        due("24 to itself", x.bricks(22, 1), VOID);
        due("24 to itself", x.bricks(22, 2), VOID);
        due("24 owner 6", x.bricks(6, 1), VOID);
        due("24 ab -1", x.bricks(-1, 2), VOID);
    }

    private void rings() {
        fresh();
        // two rings share 1 to 2: 0 1 2 comes first and takes all of it
        x.lend(1, 9);
        x.lend(12, 4);
        x.lend(20, 6);
        x.lend(23, 8);
        x.lend(31, 8);
        due("24 CLEARED", x.bricks(1, 2), 5);
        due("24 CLEARED", x.bricks(12, 2), 0);
        due("24 CLEARED", x.bricks(20, 2), 2);
        due("24 the other ring stays", x.bricks(23, 2), 8);
        x.lend(12, 3);
        due("24 now the second is lessened too", x.bricks(23, 2), 7);
        due("24 now the second is lessened too", x.bricks(31, 2), 7);
        due("24 the first is ended", x.bricks(20, 2), 0);
        due("24 lent stays", x.bricks(12, 1), 7);
        due("24 owing stays", x.bricks(2, 0), -7);
        fresh();
        // 0 2 3 and 1 2 3 share 2 to 3: the one with the least a comes first
        x.lend(2, 3);
        x.lend(23, 3);
        x.lend(30, 3);
        x.lend(31, 3);
        x.lend(12, 3);
        due("24 the first ring is taken off", x.bricks(2, 2), 0);
        due("24 the second has none left to share", x.bricks(12, 2), 3);
        due("24 the second has none left to share", x.bricks(31, 2), 3);
        // downward: 5 to 4 to 3 to 5
        x.lend(54, 2);
        x.lend(43, 3);
        x.lend(35, 5);
        due("24 a ring the other way about", x.bricks(35, 2), 3);
    }

    // ---- 25 to 27: seen, drawn

    private void oneMan() {
        fresh();
        shorts(0);
        due("25 nothing seen", x.oneMan(0), NOT);
        shorts(0, 0, 5, 4, 7, 4, 7, 23, 9999);
        due("25 one man", x.oneMan(0), NOT);
        shorts(0, 0, 5, 4, 6, 4, 7);
        due("25 too soon", x.oneMan(0), 1);
        shorts(0, 0, 5, 4, 7, 4, 6);
        due("25 a minute less", x.oneMan(0), 2);
        shorts(0, 24, 5);
        due("25 no such PLACE", x.oneMan(0), 0);
        shorts(0, -1, 5);
        due("25 no such PLACE", x.oneMan(0), 0);
        shorts(0, 0, -1);
        due("25 no such minute", x.oneMan(0), 0);
        shorts(0, 0, 10000);
        due("25 no such minute", x.oneMan(0), 0);
        shorts(0, 0, 5, 2);
        due("25 the end lacks", x.oneMan(0), 1);
        shorts(0, 0);
        due("25 the end lacks", x.oneMan(0), 0);
        shorts(0, 0, 5, 1, 9000);
        due("25 round", x.oneMan(0), NOT);
        x.mend(0, ROUND, 0);
        x.mend(1, ROUND, 0);
        due("25 no WAY", x.oneMan(0), 1);
        shorts(0, 0, 0, 1, 9999);
        due("25 no WAY however long", x.oneMan(0), 1);
        due("25 nothing", x.oneMan(1), -11);
        due("25 shelf", x.oneMan(6), BAD);
        due("25 shelf", x.oneMan(-1), BAD);
        bytes(1, 0, 5);
        due("25 bytes", x.oneMan(1), -12);
        x.body(0);
        x.keep(1, 0);
        due("25 a BRICK", x.oneMan(1), -12);
    }

    private void where() {
        fresh();
        shorts(0);
        due("26 anywhere", x.where(0, 0, -1), 24);
        due("26 anywhere", x.where(0, 0, 23), 1);
        shorts(0, 0, 5, 4, 7);
        due("26 at the last one", x.where(0, 7, -1), 1);
        due("26 there", x.where(0, 7, 4), 1);
        due("26 not there", x.where(0, 7, 0), 0);
        due("26 two minutes on", x.where(0, 9, -1), 5);
        due("26 two minutes on", x.where(0, 9, 0), 1);
        due("26 in four round the end", x.where(0, 11, 1), 1);
        due("26 not yet", x.where(0, 10, 1), 0);
        due("26 all", x.where(0, 9999, -1), 24);
        shorts(0, 4, 7);
        due("26 one two", x.where(0, 7, 4), 1);
        due("26 one two", x.where(0, 7, -1), 1);
        shorts(0, 0, 5, 4, 7, 10, 20);
        due("26 three twos", x.where(0, 20, 10), 1);
        due("26 three twos", x.where(0, 20, -1), 1);
        due("26 three twos", x.where(0, 19, 10), STATE);
        shorts(0, 0, 5, 4, 7);
        due("26 less than the last one", x.where(0, 6, -1), STATE);
        shorts(0, 0, 5, 4, 6);
        due("26 not ONE MAN", x.where(0, 100, -1), 0);
        due("26 not ONE MAN", x.where(0, 100, 4), 0);
        shorts(0, 0, 5, 4);
        due("26 the end lacks", x.where(0, 100, -1), 0);
        due("26 m -1", x.where(0, -1, -1), BAD);
        due("26 m 10000", x.where(0, 10000, -1), BAD);
        due("26 place -2", x.where(0, 100, -2), BAD);
        due("26 place 24", x.where(0, 100, 24), BAD);
        due("26 shelf", x.where(6, 100, -1), BAD);
        due("26 nothing", x.where(1, 100, -1), -11);
        due("26 BAD ahead of nothing", x.where(1, -1, -1), BAD);
        x.row(1, 2, 2);
        due("26 ints", x.where(1, 100, -1), -12);
        shorts(2, 0, 0);
        x.mend(0, ROUND, 0);
        x.mend(1, ROUND, 0);
        due("26 no WAY to the other SIDE", x.where(2, 9999, -1), 12);
        due("26 no WAY to the other SIDE", x.where(2, 9999, 1), 0);
    }

    private void whereNotOneMan() {
        fresh();
        shorts(0, 0, 5, 4);
        due("26 the end lacks, so no minute is less", x.where(0, 0, -1), 0);
        due("26 the end lacks, so no minute is less", x.where(0, 4, 0), 0);
        shorts(0, 0, 2, 0);
        due("26 the end lacks, so no minute is less", x.where(0, 0, 0), 0);
        shorts(0, 3);
        due("26 one whose end lacks", x.where(0, 0, -1), 0);
        shorts(0, 0, 5, 4, 6);
        due("26 less than the last one, not ONE MAN either", x.where(0, 5, -1), STATE);
        shorts(0, 99, 6);
        due("26 less than the last one of no PLACE", x.where(0, 5, -1), STATE);
        due("26 the last one of no PLACE", x.where(0, 6, -1), 0);
        shorts(0, 0, -5);
        due("26 a minute below 0", x.where(0, 0, -1), 0);
        due("26 a minute below 0", x.where(0, 0, 0), 0);
        shorts(0, 0, 10000);
        due("26 a minute above 9999", x.where(0, 9999, -1), STATE);
    }

    private void drawn() {
        longAs(2);
        // PLACES in a ring 0 2 3 1: from 0 to 1 or 2
        int z = 77 * 1103515245 + 12345;
        int to = (z >>> 8) % 2 == 0 ? 1 : 2;
        due("27 one step", x.drawn(0, 77, 1, 0), to);
        due("27 two PLACES", x.drawn(0, 77, 1, 1), 2);
        z = z * 1103515245 + 12345;
        int[] next = {0, 3};
        due("27 two steps", x.drawn(0, 77, 2, 0), next[(z >>> 8) % 2]);
        x.mend(0, ROUND, 0);
        due("27 one STEP only", x.drawn(0, 77, 1, 0), 2);
        x.hole(1);
        x.hole(1);
        // from 2 to 0 or 3, though three STEPS lead to 3
        int seed = 0;
        while ((seed * 1103515245 + 12345 >>> 8) % 2 != 0 || (seed * 1103515245 + 12345 >>> 8) % 4 == 0) {
            seed++;
        }
        due("27 each once", x.drawn(2, seed, 1, 0), 0);
        due("27 200 steps", x.drawn(2, seed, 200, 1), 4);
        due("27 n 0", x.drawn(2, 0, 0, 0), BAD);
        due("27 n 201", x.drawn(2, 0, 201, 0), BAD);
        due("27 what 2", x.drawn(2, 0, 1, 2), BAD);
        due("27 what -1", x.drawn(2, 0, 1, -1), BAD);
        due("27 place", x.drawn(4, 0, 1, 0), BAD);
        due("27 place", x.drawn(-1, 0, 1, 0), BAD);
    }

    // ---- 28 to 33: in deed

    private void going() {
        fresh();
        due("28 go", x.go(22), 11);
        due("31 minutes", x.led(0), 11);
        due("31 goings", x.led(1), 1);
        due("31 PLACE", x.led(3), 22);
        due("28 go on", x.go(23), 2);
        due("31 minutes", x.led(0), 13);
        due("28 stay", x.go(23), 0);
        due("31 goings", x.led(1), 3);
        due("28 BAD", x.go(24), BAD);
        due("28 BAD", x.go(-1), BAD);
        x.mend(0, LONG, 11);
        due("28 from beyond LONG", x.go(0), NOT);
        due("28 to beyond LONG", x.go(23), BAD);
        x.mend(0, LONG, 12);
        x.mend(0, ROUND, 0);
        x.mend(1, ROUND, 0);
        due("28 no WAY", x.go(0), NOT);
        due("31 goings", x.led(1), 3);
        due("31 PLACE", x.led(3), 23);
        due("31 what 4", x.led(4), BAD);
        due("31 what -1", x.led(-1), BAD);
    }

    private void digging() {
        fresh();
        x.go(7);
        int now = x.led(0);
        due("29 digs", x.digs(), 0);
        due("29 in its YARD", x.of(0, 12), 3);
        due("29 60 minutes", x.led(0), now + 60);
        due("29 dug", x.led(2), 1);
        due("29 OPEN", x.way(706, 0), 1);
        x.go(23);
        x.mend(0, LONG, 11);
        due("29 beyond LONG", x.digs(), STATE);
        due("29 dug", x.led(2), 1);
        x.mend(0, LONG, 12);
        for (int h = 1; h < 12; h++) {
            due("29 digs", x.digs(), h);
        }
        due("29 FULL", x.digs(), FULL);
        x.mend(0, LONG, 11);
        due("29 FULL ahead of STATE", x.digs(), FULL);
        due("29 dug", x.led(2), 12);
    }

    private void turning() {
        fresh();
        x.hole(0);
        x.hole(1);
        due("30 shut", x.turn(0, 0), 1);
        due("30 a minute more", x.led(0), 1);
        due("30 shut again", x.turn(0, 0), 0);
        due("30 a minute more", x.led(0), 2);
        due("30 is shut", x.of(0, OPEN), 0);
        due("30 open", x.turn(0, 1), 0);
        due("30 is OPEN", x.of(0, OPEN), 1);
        due("30 no CHANGE", x.undo(), STATE);
        due("30 another YARD", x.turn(1, 0), STATE);
        due("30 no such HOLE", x.turn(2, 0), BAD);
        due("30 no such HOLE", x.turn(-1, 0), BAD);
        due("30 open 2", x.turn(0, 2), BAD);
        due("30 open -1", x.turn(0, -1), BAD);
        due("30 minutes", x.led(0), 3);
        x.hole(11);
        x.go(23);
        due("30 from the other SIDE", x.turn(2, 0), 1);
        x.mend(0, LONG, 11);
        due("30 beyond LONG", x.turn(2, 1), STATE);
    }

    private void images() {
        fresh();
        due("33 none", x.back(), STATE);
        x.go(2);
        x.lend(1, 7);
        x.digs();
        due("32 image", x.image(), 61);
        x.go(10);
        x.digs();
        x.lend(1, 9);
        x.lend(34, 9);
        x.mend(0, WARM, 9);
        due("33 back", x.back(), 61);
        due("33 minutes", x.led(0), 61);
        due("33 goings", x.led(1), 1);
        due("33 dug", x.led(2), 1);
        due("33 PLACE", x.led(3), 2);
        due("33 BRICKS", x.bricks(1, 1), 7);
        due("33 BRICKS", x.bricks(34, 1), 0);
        due("33 HOLES stay", x.count(0), 2);
        due("33 WARM stays", x.of(0, WARM), 9);
        x.go(4);
        due("33 once more", x.back(), 61);
        due("33 PLACE", x.led(3), 2);
        x.go(4);
        due("32 a later one", x.image(), 62);
        x.go(6);
        due("33 the later one", x.back(), 62);
    }

    // ---- 34, 35: undo and redo

    private void undoing() {
        fresh();
        due("34 none", x.undo(), STATE);
        due("35 none", x.redo(), STATE);
        x.mend(0, WARM, 1);
        x.mend(0, WARM, 2);
        x.mend(0, WARM, 2);
        x.mend(1, THICK, 9);
        due("34 the latest first", x.undo(), 2);
        due("34 undone", x.of(1, THICK), 4);
        due("34 the next", x.undo(), 1);
        due("34 undone", x.of(0, WARM), 1);
        due("35 again", x.redo(), 1);
        due("35 done again", x.of(0, WARM), 2);
        x.mend(0, WARM, 2);
        due("35 the same number is none", x.redo(), 0);
        due("35 done again", x.of(1, THICK), 9);
        due("35 no more", x.redo(), STATE);
        x.undo();
        x.mend(2, THICK, 8);
        due("35 another came behind", x.redo(), STATE);
        due("45 changes", x.count(3), 3);
        for (int i = 0; i < 38; i++) {
            x.mend(3, WARM, i);
        }
        due("34 40 at most", x.count(3), 40);
        for (int i = 39; i >= 0; i--) {
            due("34 undo", x.undo(), i);
        }
        due("34 none left", x.undo(), STATE);
        due("34 the oldest is forgotten", x.of(0, WARM), 1);
        for (int i = 39; i >= 0; i--) {
            due("35 redo", x.redo(), i);
        }
        due("35 all again", x.of(3, WARM), 37);
        fresh();
        for (int i = 0; i < 50; i++) {
            x.mend(i % 30, i % 3 == 0 ? THICK : WARM, i % 3 != 0 ? i : i < 30 ? 8 : 9);
        }
        for (int i = 49; i >= 10; i--) {
            due("34 undo", x.undo(), i - 10);
            int before = i % 3 == 0 ? i >= 30 ? 8 : 4 : i >= 30 ? i - 30 : 50;
            due("34 each as it was before " + i, x.of(i % 30, i % 3 == 0 ? THICK : WARM), before);
        }
        due("34 forgotten", x.of(9, THICK), 8);
        for (int i = 10; i < 50; i++) {
            due("35 redo", x.redo(), 49 - i);
            due("35 each again " + i, x.of(i % 30, i % 3 == 0 ? THICK : WARM), i % 3 != 0 ? i : i < 30 ? 8 : 9);
        }
        fresh();
        x.hole(0);
        x.lane(1);
        x.digs();
        x.lend(1, 1);
        due("34 deeds, BRICKS are none", x.undo(), STATE);
        x.mend(0, OPEN, 0);
        x.mend(0, WIDE, 7);
        x.mend(1, ROUND, 5);
        x.mend(0, LONG, 5);
        x.mend(0, RATE, 0);
        for (int i = 4; i >= 0; i--) {
            due("34 undo", x.undo(), i);
        }
        due("34 OPEN", x.of(0, OPEN), 1);
        due("34 WIDE", x.of(0, WIDE), 1);
        due("34 ROUND", x.of(1, ROUND), 2);
        due("34 LONG", x.of(0, LONG), 12);
        due("34 RATE", x.of(0, RATE), 3);
    }

    // ---- 36 to 38: acts

    private void ran(String call, int... bodies) {
        due(call + ": how many ran", x.count(5), bodies.length);
        for (int i = 0; i < bodies.length; i++) {
            due(call + ": trace(" + i + ")", x.trace(i), bodies[i]);
        }
        due(call + ": behind the trace", x.trace(bodies.length), BAD);
        due(call + ": ahead of it", x.trace(-1), BAD);
    }

    private void acts() {
        fresh();
        due("36 kind -1", x.body(-1), BAD);
        due("36 kind 8", x.body(8), BAD);
        for (int kind = 0; kind < 8; kind++) {
            due("36 body(" + kind + ")", x.body(kind), kind);
        }
        due("37 BRICK stands", x.act(0, 0, 5), 5);
        ran("BRICK stands", 1);
        due("37 BRICK tells", x.act(0, 3, 5), 9);
        ran("BRICK tells", 2, 10, 1, 11);
        due("37 BEND stands", x.act(1, 0, 5), 9);
        ran("BEND stands", 20, 1);
        due("37 BEND bears", x.act(1, 1, 5), 18);
        ran("BEND bears", 10, 20, 1);
        due("37 HOLE bears", x.act(2, 1, 5), -14);
        ran("HOLE bears", 30, 10, 1);
        due("37 CUPBOARD knocks", x.act(3, 2, 5), 18);
        ran("CUPBOARD knocks", 40, 11);
        due("37 CUPBOARD bears", x.act(3, 1, 5), -18);
        ran("CUPBOARD bears", 41, 30, 10, 1);
        due("37 CORNER knocks", x.act(4, 2, 5), 1 - 9);
        ran("CORNER knocks", 50, 11, 20, 1);
        due("37 TUNNEL tells", x.act(5, 3, 5), (-22 - 12) ^ 5);
        ran("TUNNEL tells", 60, 2, 41, 30, 10, 1, 40, 11);
        due("37 IVY stands", x.act(6, 0, 5), 22);
        ran("IVY stands", 70, 1);
        due("37 IVY bears", x.act(6, 1, 5), 44);
        ran("IVY bears", 10, 70, 1);
        // END, number 7: stands(x) x + 10; knocks(x) (x ^ 7) - 12; bears(x) 2x + 20 + knocks(2)
        due("37 END bears", x.act(7, 1, 5), 30 + 5 - 12);
        ran("END bears", 80, 10, 20, 1, 50, 11, 20, 1);
        due("37 END tells", x.act(7, 3, 5), 23 - (6 - 12) - 1);
        ran("END tells", 81, 2, 80, 10, 20, 1, 50, 11, 20, 1, 50, 11, 20, 1);
        due("37 x wraps", x.act(1, 1, Integer.MAX_VALUE), (Integer.MAX_VALUE + 4) * 2);
        due("37 no such ACT", x.act(0, 4, 5), 0);
        ran("no such ACT");
        x.act(0, 0, 5);
        due("37 no such ACT", x.act(0, -1, 5), 0);
        ran("no such ACT");
        x.act(0, 0, 5);
        due("37 no such BRICK", x.act(8, 0, 5), 0);
        ran("no such BRICK");
        x.act(0, 0, 5);
        due("37 no such BRICK", x.act(-1, 0, 5), 0);
        ran("no such BRICK");
        for (int i = 8; i < 50; i++) {
            due("36 body", x.body(0), i);
        }
        due("36 FULL", x.body(0), FULL);
        due("36 BAD ahead of FULL", x.body(8), BAD);
        due("37 its number", x.act(49, 0, 1), 50);
        due("45 BODIES", x.count(4), 50);
    }

    // ---- 39 to 44: shelves

    private void keeping() {
        fresh();
        x.body(3);
        due("39 keep", x.keep(5, 0), 1);
        due("39 holds it", x.taken(5, 3), 3);
        due("39 no such BRICK", x.keep(5, 1), BAD);
        due("39 body -2", x.keep(5, -2), BAD);
        due("39 shelf 6", x.keep(6, 0), BAD);
        due("39 shelf -1", x.keep(-1, -1), BAD);
        due("39 still holds it", x.taken(5, 3), 3);
        due("39 nothing", x.keep(5, -1), 1);
        due("39 holds nothing", x.taken(5, 3), -11);
        x.row(5, 0, 3);
        due("39 in place of a ROW", x.keep(5, 0), 1);
        due("39 no ROW any more", x.put(5, 0, 1), -12);
    }

    private void rows() {
        fresh();
        due("40 shelf 6", x.row(6, 0, 1), BAD);
        due("40 shelf -1", x.row(-1, 0, 1), BAD);
        due("40 sort -1", x.row(0, -1, 1), BAD);
        due("40 sort 5", x.row(0, 5, 1), BAD);
        due("40 n 61", x.row(0, 0, 61), BAD);
        due("40 n -1", x.row(0, 0, -1), -14);
        due("40 BAD ahead of -14", x.row(0, 5, -1), BAD);
        due("40 n least", x.row(0, 0, Integer.MIN_VALUE), -14);
        due("41 still nothing", x.put(0, 0, 1), -11);
        long big = 0x123456789abcdef8L;
        long[] kept = {(byte) big, (short) big, (int) big, big, 1};
        for (int sort = 0; sort < 5; sort++) {
            due("40 row", x.row(0, sort, 60), 1);
            for (int i = 0; i < 60; i++) {
                due("40 0 at first", x.element(0, i), 0);
            }
            due("41 put", x.put(0, 59, big), 1);
            due("42 its lowest bits", x.element(0, 59), kept[sort]);
            due("41 put", x.put(0, 58, 0x100000000L), 1);
            due("42 its lowest bits", x.element(0, 58), sort == 3 ? 0x100000000L : sort == 4 ? 1 : 0);
            due("41 put", x.put(0, 58, 0), 1);
            due("42 0", x.element(0, 58), 0);
            due("41 i 60", x.put(0, 60, 1), -13);
            due("41 i -1", x.put(0, -1, 1), -13);
            due("42 i 60", x.element(0, 60), NONE);
            due("42 i -1", x.element(0, -1), NONE);
        }
        due("40 no element", x.row(1, 3, 0), 1);
        due("41 no element", x.put(1, 0, 1), -13);
        due("41 shelf 6", x.put(6, 0, 1), BAD);
        due("41 shelf -1", x.put(-1, 0, 1), BAD);
        due("42 shelf 6", x.element(6, 0), NONE);
        due("41 nothing", x.put(2, 0, 1), -11);
        due("42 nothing", x.element(2, 0), NONE);
        x.body(0);
        x.keep(2, 0);
        due("41 a BRICK", x.put(2, 0, 1), -12);
        due("42 a BRICK", x.element(2, 0), NONE);
    }

    private void shifting() {
        fresh();
        bytes(0, 1, 2, 3, 4, 5);
        bytes(1, 9, 9, 9);
        due("43 shift", x.shift(0, 1, 1, 0, 2), 2);
        due("43 came", x.element(1, 0), 2);
        due("43 came", x.element(1, 1), 3);
        due("43 stays", x.element(1, 2), 9);
        due("43 upward in the same", x.shift(0, 0, 0, 1, 4), 4);
        for (int i = 0; i < 5; i++) {
            due("43 as they were before", x.element(0, i), i == 0 ? 1 : i);
        }
        due("43 downward in the same", x.shift(0, 1, 0, 0, 4), 4);
        for (int i = 0; i < 5; i++) {
            due("43 as they were before", x.element(0, i), i == 4 ? 4 : i + 1);
        }
        due("43 none", x.shift(0, 5, 1, 3, 0), 0);
        due("43 one too many", x.shift(0, 5, 1, 2, 1), -13);
        due("43 one too many", x.shift(0, 4, 1, 3, 1), -13);
        due("43 i -1", x.shift(0, -1, 1, 0, 1), -13);
        due("43 j -1", x.shift(0, 0, 1, -1, 1), -13);
        due("43 n -1", x.shift(0, 0, 1, 0, -1), -13);
        due("43 so many", x.shift(0, 1, 1, 1, Integer.MAX_VALUE), -13);
        due("43 shelf", x.shift(-1, 0, 1, 0, 1), BAD);
        due("43 other", x.shift(0, 0, 6, 0, 1), BAD);
        due("43 nothing", x.shift(2, 0, 1, 0, 1), -11);
        due("43 nothing", x.shift(0, 0, 2, 0, 1), -11);
        x.body(0);
        x.keep(3, 0);
        due("43 nothing ahead of a BRICK", x.shift(3, 0, 2, 0, 1), -11);
        due("43 a BRICK", x.shift(3, 0, 1, 0, 1), -12);
        due("43 two BRICKS", x.shift(3, 0, 3, 0, 0), -12);
        x.row(4, 1, 5);
        due("43 unlike sorts", x.shift(0, 0, 4, 0, 1), -12);
        due("43 -12 ahead of -13", x.shift(0, -1, 4, 0, 1), -12);
    }

    private void taking() {
        fresh();
        // BRICK; BEND, HOLE, IVY under it; CUPBOARD under HOLE, TUNNEL under that; CORNER under BEND, END under that
        int[] above = {-1, 0, 0, 2, 1, 3, 0, 4};
        for (int kind = 0; kind < 8; kind++) {
            x.body(kind);
            x.keep(0, kind);
            for (int k = 0; k < 8; k++) {
                boolean under = false;
                for (int up = kind; up >= 0; up = above[up]) {
                    under |= up == k;
                }
                due("44 " + kind + " for " + k, x.taken(0, k), under ? kind : -12);
            }
        }
        due("44 k 8", x.taken(0, 8), BAD);
        due("44 k -1", x.taken(0, -1), BAD);
        due("44 shelf 6", x.taken(6, 0), BAD);
        due("44 shelf -1", x.taken(-1, 0), BAD);
        due("44 nothing", x.taken(1, 0), -11);
        x.row(1, 0, 3);
        due("44 a ROW", x.taken(1, 0), -12);
    }

    private void counting() {
        fresh();
        x.hole(0);
        x.lane(1);
        x.lane(2);
        x.feed(0);
        x.feed(0);
        x.feed(0);
        for (int i = 0; i < 4; i++) {
            x.mend(i, WARM, 1);
        }
        for (int i = 0; i < 5; i++) {
            x.body(5);
        }
        x.act(0, 3, 1);
        int[] want = {1, 2, 3, 4, 5, 8};
        for (int what = 0; what < 6; what++) {
            due("45 count(" + what + ")", x.count(what), want[what]);
        }
        due("45 what 6", x.count(6), BAD);
        due("45 what -1", x.count(-1), BAD);
    }
}
