import java.io.IOException;

/** The boundary cases of ways, pacing and meeting, sentence by sentence. */
public final class EdgesOfWaysTest extends Trial {
    /** Pairs of two-digit numbers of which one at least is none of 0 .. 23 (PLACES of twelve YARDS). */
    private static final int[] NO_PLACES = {24, 2400, 2424, 23 * 100 + 24, 99, 9900, 10000, -1, -23, -100, -101, MAX, MIN};
    /** The same for 0 .. 11. */
    private static final int[] NO_YARDS = {12, 1200, 1212, 1112, 99, 9900, 10000, -1, -11, -100, -101, MAX, MIN};

    public static void main(String[] args) throws IOException {
        new EdgesOfWaysTest().test(args);
    }

    private void test(String[] args) throws IOException {
        read(args);
        waysRefused();
        wayToItself();
        noWay();
        firstSteps();
        longestWays();
        farRefused();
        farthest();
        reachRefused();
        reachWithin();
        widestOfAll();
        digging();
        diggingRefused();
        spareRefused();
        spareNone();
        spareHoles();
        spareLanes();
        paceRefused();
        turningAbout();
        howOften();
        meetRefused();
        meetNever();
        meetAtHoles();
        allTried(9, 16);
        check.end();
    }

    // ---- way

    private void waysRefused() {
        promise(9, "WAY (what 0), the first STEP (1; from a PLACE to itself: it). BAD; NOT.");
        parted(12);
        for (int ab : NO_PLACES) {
            due("way(" + ab + ", 0)", x.way(ab, 0), BAD);
            due("way(" + ab + ", 1)", x.way(ab, 1), BAD);
        }
        for (int what : new int[] {-1, 2, MAX, MIN}) {
            due("what " + what, x.way(2, what), BAD);
            due("BAD ahead of NOT, what " + what, x.way(1, what), BAD);
        }
    }

    private void wayToItself() {
        promise(9, "from a PLACE to itself: it");
        for (int yards : new int[] {2, 12, 30}) {
            parted(yards);
            for (int place : new int[] {0, 1, 2 * yards - 2, 2 * yards - 1}) {
                due("how long from " + place, x.way(101 * place, 0), 0);
                due("the first STEP from " + place, x.way(101 * place, 1), place);
            }
        }
    }

    private void noWay() {
        term("WAY from a PLACE to another: the least minutes (NOT: none)");
        parted(2);
        due("none", x.way(1, 0), NOT);
        due("no first STEP", x.way(1, 1), NOT);
        due("none back", x.way(302, 0), NOT);
        x.mend(1, ROUND, 99);
        due("round", x.way(1, 0), 101);
        due("the first STEP", x.way(1, 1), 2);
        x.hole(0);
        x.mend(0, DEEP, 9);
        due("the least", x.way(1, 0), 9);
        x.hole(0);
        due("of two HOLES the less DEEP", x.way(1, 0), 1);
        x.lane(302);
        x.mend(0, WIDE, 9);
        due("a LANE beside the end", x.way(203, 0), 3);
        x.mend(0, OPEN, 0);
        x.mend(1, OPEN, 0);
        due("the LANE", x.way(203, 0), 9);
        due("the STEP by it", x.way(203, 1), 3);
    }

    private void firstSteps() {
        term("the first STEP of it: to which PLACE (of like ones the least)");
        longAs(3);
        x.mend(0, ROUND, 1);
        x.mend(1, ROUND, 1);
        due("round 0 or round the far end: 3 and 3", x.way(203, 0), 3);
        due("the least PLACE", x.way(203, 1), 0);
        due("from the other SIDE", x.way(302, 1), 1);
        x.lane(204);
        due("a LANE to where one goes anyway", x.way(204, 1), 4);
        parted(12);
        due("another PLACE is as far, with a lesser STEP", x.way(1410, 1), 12);
        due("that one's", x.way(610, 1), 8);
        x.lane(204);
        due("not the LANE of another PLACE", x.way(4, 1), 2);
        parted(4);
        lawOf("2");
        x.lane(4);
        x.mend(0, WIDE, 4);
        due("by the LANE or along", x.way(4, 0), 4);
        due("the least PLACE", x.way(4, 1), 2);
        x.mend(0, WIDE, 3);
        due("by the LANE", x.way(4, 1), 4);
        x.mend(0, WIDE, 5);
        due("along", x.way(4, 1), 2);
    }

    private void longestWays() {
        term("WAY from a PLACE to another: the least minutes");
        longAs(30);
        x.mend(0, ROUND, 0);
        x.mend(1, ROUND, 99);
        lawOf("99");
        due("59 STEPS of 99", x.way(1, 0), 59 * 99);
        due("it is the greatest, too", x.widest(), 59 * 99);
        due("between the last two", x.way(5958, 0), 99);
        due("the first STEP", x.way(5958, 1), 58);
        due("far", x.far(0, 0), 59 * 99);
        due("where", x.far(0, 1), 1);
        due("go", x.go(1), 59 * 99);
        due("minutes", x.led(0), 59 * 99);
    }

    // ---- far, reach

    private void farRefused() {
        promise(10, "FAR: how far (what 0), where (1), how many (2; itself, too). BAD.");
        fresh();
        for (int place : new int[] {-1, 24, 59, 60, MAX, MIN}) {
            for (int what = 0; what < 3; what++) {
                due("far(" + place + ", " + what + ")", x.far(place, what), BAD);
            }
        }
        for (int what : new int[] {-1, 3, MAX, MIN}) {
            due("what " + what, x.far(0, what), BAD);
        }
    }

    private void farthest() {
        term("FAR: the greatest WAY from a PLACE; to which (of like ones the least); how many PLACES it reaches.");
        parted(2);
        due("the other one", x.far(0, 0), 1);
        due("where", x.far(0, 1), 2);
        due("itself, too", x.far(0, 2), 2);
        due("from SIDE 1", x.far(3, 1), 1);
        parted(3);
        due("two are as far", x.far(2, 0), 1);
        due("of like ones the least", x.far(2, 1), 0);
        due("of like ones the least on SIDE 1", x.far(3, 1), 1);
        due("not what cannot be reached", x.far(2, 2), 3);
        x.hole(1);
        due("now all", x.far(2, 2), 6);
        due("three are 2 and 1 far", x.far(2, 0), 2);
        due("of like ones the least", x.far(2, 1), 1);
        longAs(30);
        due("as many as there are", x.far(59, 2), 60);
        due("the other end", x.far(59, 0), 31);
        due("where", x.far(59, 1), 0);
    }

    private void reachRefused() {
        promise(11, "REACH (sm: 1000 times the SIDE, and m): bits. BAD.");
        fresh();
        for (int sm : new int[] {-1, -1000, -1001, 2000, 2001, 9999, MAX, MIN}) {
            due("sm " + sm, x.reach(0, sm), BAD);
        }
        for (int place : new int[] {-1, 24, 59, 60, MAX, MIN}) {
            due("place " + place, x.reach(place, 0), BAD);
        }
        due("SIDE 0 in 999", x.reach(0, 999), 4095);
        due("SIDE 1 in 0", x.reach(0, 1000), 0);
        due("SIDE 1 in 999", x.reach(0, 1999), 4095);
    }

    private void reachWithin() {
        term("REACH: which YARDS on a SIDE (bits) it reaches in m minutes (0 .. 999).");
        parted(30);
        lawOf("99");
        due("in 0 itself", x.reach(58, 0), 1 << 29);
        due("in 98 itself", x.reach(0, 98), 1);
        due("in 99 the next", x.reach(0, 99), 3);
        due("in 989", x.reach(0, 989), (1 << 10) - 1);
        due("in 990", x.reach(0, 990), (1 << 11) - 1);
        due("in 999", x.reach(0, 999), (1 << 11) - 1);
        due("none on the other SIDE", x.reach(0, 1999), 0);
        lawOf("1");
        due("all thirty", x.reach(0, 999), (1 << 30) - 1);
        due("all but the last", x.reach(0, 28), (1 << 29) - 1);
        due("the last, too", x.reach(0, 29), (1 << 30) - 1);
        lawOf("111/3");
        x.mend(0, ROUND, 1);
        x.mend(1, ROUND, 0);
        due("27 STEPS of 37", x.reach(0, 999), (1 << 28) - 1);
        due("as many minutes as it takes", x.reach(1, 1999), (1 << 28) - 1);
        due("one minute too few for the other SIDE", x.reach(1, 999), (1 << 27) - 1);
        x.mend(0, LONG, 2);
        due("only YARDS that are there", x.reach(0, 999), 3);
    }

    // ---- widest, dig

    private void widestOfAll() {
        promise(12, "WIDEST. NOT.");
        term("WIDEST: the greatest WAY of all pairs of PLACES (NOT: some cannot be reached)");
        parted(2);
        due("some cannot be reached", x.widest(), NOT);
        x.hole(0);
        due("1 along, 1 through, 1 along", x.widest(), 3);
        x.mend(0, OPEN, 0);
        due("some cannot be reached", x.widest(), NOT);
        x.mend(1, ROUND, 2);
        due("round the last one", x.widest(), 4);
        lawOf("d*2+1");
        due("the dearer way of a pair counts", x.widest(), 6);
        lawOf("1+d*(1-s)*8");
        due("from PLACE 0 to 1 and not back", x.widest(), 12);
        due("from PLACE 0 to 1", x.way(1, 0), 12);
        due("and back", x.way(100, 0), 4);
        lawOf("1+d*s*8");
        due("from PLACE 1 to 0 and not back", x.widest(), 12);
        due("from PLACE 1 to 0", x.way(100, 0), 12);
    }

    private void digging() {
        term("DIG: in which YARD a new HOLE (DEEP 1) makes that least (of like ones the least; as long as some cannot be reached, it counts 9999): the YARD, what it is then.");
        parted(2);
        due("either YARD is as good", x.dig(0), 0);
        due("what it is then", x.dig(1), 3);
        parted(3);
        due("the middle", x.dig(0), 1);
        due("what it is then", x.dig(1), 3);
        parted(30);
        due("of the two middle ones the least", x.dig(0), 14);
        due("what it is then", x.dig(1), 31);
        parted(12);
        x.hole(0);
        x.mend(0, DEEP, 9);
        // in YARD 5 it would be 13 still, at the last YARD; in 6 it is 12, along and through
        due("beside a HOLE that is DEEP 9", x.dig(0), 6);
        due("what it is then", x.dig(1), 12);
        due("nothing is dug", x.count(0), 1);
        parted(3);
        // the middle: 51, 1, 1 from PLACE 0 to 1 and to 5; YARD 0: 55 from PLACE 5 to 4
        lawOf("1+(1-s)*d*(y=0)*50");
        due("it is long to leave PLACE 0", x.dig(0), 1);
        due("what it is then", x.dig(1), 53);
        lawOf("1+(1-s)*!d*(y=1)*50");
        due("it is long to come to PLACE 0", x.dig(0), 1);
        due("what it is then", x.dig(1), 53);
        lawOf("1+s*d*(y=1)*50");
        due("it is long to come to PLACE 5", x.dig(0), 1);
        due("what it is then", x.dig(1), 53);
        lawOf("1+s*!d*(y=2)*50");
        due("it is long to leave PLACE 5", x.dig(0), 1);
        due("what it is then", x.dig(1), 53);
        longAs(2);
        x.mend(0, ROUND, 1);
        x.mend(1, ROUND, 1);
        due("no HOLE makes it less", x.dig(0), 0);
        due("what it is anyway", x.dig(1), 2);
        for (int h = 0; h < 12; h++) {
            x.hole(0);
            x.mend(h, OPEN, 0);
        }
        x.mend(0, ROUND, 0);
        x.mend(1, ROUND, 0);
        due("though there are twelve, all shut", x.dig(1), 3);
        due("the least YARD", x.dig(0), 0);
        due("still twelve", x.count(0), 12);
    }

    private void diggingRefused() {
        promise(13, "DIG: the YARD (what 0), what it is then (1). BAD.");
        fresh();
        for (int what : new int[] {-1, 2, 3, MAX, MIN}) {
            due("what " + what, x.dig(what), BAD);
        }
    }

    // ---- spare

    private void spareRefused() {
        promise(14, "SPARE: a HOLE (what 0), what it is then (1), a LANE (2, 3). BAD; NOT.");
        fresh();
        for (int ab : NO_PLACES) {
            for (int what = 0; what < 4; what++) {
                due("spare(" + ab + ", " + what + ")", x.spare(ab, what), BAD);
            }
        }
        for (int what : new int[] {-1, 4, MAX, MIN}) {
            due("BAD ahead of NOT, what " + what, x.spare(1, what), BAD);
        }
    }

    private void spareNone() {
        term("it (NOT: there is none OPEN), what it is then; LANES likewise.");
        parted(12);
        for (int what = 0; what < 4; what++) {
            due("none at all, what " + what, x.spare(1, what), NOT);
        }
        x.hole(3);
        x.lane(45);
        due("a LANE that cannot be is none", x.count(1), 0);
        x.lane(415);
        due("the only HOLE", x.spare(1, 0), 0);
        due("the only LANE", x.spare(1, 2), 0);
        x.mend(0, OPEN, 0);
        x.mend(0, LANE_OPEN, 0);
        for (int what = 0; what < 4; what++) {
            due("none OPEN, what " + what, x.spare(1, what), NOT);
        }
        x.mend(0, OPEN, 1);
        due("a HOLE OPEN, no LANE", x.spare(1, 2), NOT);
        x.mend(0, LANE_OPEN, 1);
        x.mend(0, OPEN, 0);
        due("a LANE OPEN, no HOLE", x.spare(1, 0), NOT);
    }

    private void spareHoles() {
        term("SPARE: which HOLE, if shut, makes the WAY from one PLACE to another longest (none: 9999; of like ones the least)");
        parted(12);
        for (int h = 0; h < 12; h++) {
            x.hole(11 - h);
        }
        due("the twelfth of twelve", x.spare(1, 0), 11);
        due("what it is then", x.spare(1, 1), 3);
        due("none of them: of like ones the least", x.spare(22, 0), 0);
        due("what it is then", x.spare(22, 1), 11);
        due("from a PLACE to itself", x.spare(505, 0), 0);
        due("what it is then", x.spare(505, 1), 0);
        x.mend(0, OPEN, 0);
        due("one that is shut is none", x.spare(22, 0), 1);
        for (int h = 1; h < 11; h++) {
            x.mend(h, OPEN, 0);
        }
        due("the only one", x.spare(1, 0), 11);
        due("none", x.spare(1, 1), 9999);
        due("nothing is shut", x.of(11, OPEN), 1);
        due("there is a WAY still", x.way(1, 0), 1);
        parted(12);
        x.hole(0);
        x.hole(0);
        due("one of two in one YARD", x.spare(1, 1), 1);
        x.mend(1, DEEP, 9);
        due("the less DEEP", x.spare(1, 0), 0);
        due("what it is then", x.spare(1, 1), 9);
        parted(30);
        x.hole(0);
        x.hole(29);
        x.hole(28);
        due("from the last PLACE", x.spare(5958, 0), 1);
        due("what it is then", x.spare(5958, 1), 3);
        due("to the first one", x.spare(5900, 0), 0);
        due("what it is then", x.spare(5900, 1), 30);
    }

    private void spareLanes() {
        term("LANES likewise.");
        parted(12);
        for (int l = 0; l < 12; l++) {
            x.lane(100 * (22 - 2 * l) + 23 - 2 * l);
        }
        due("the twelfth of twelve", x.spare(1, 2), 11);
        due("what it is then", x.spare(1, 3), 3);
        due("of like ones the least", x.spare(22, 2), 0);
        due("what it is then", x.spare(22, 3), 11);
        due("from a PLACE to itself", x.spare(505, 3), 0);
        for (int l = 0; l < 11; l++) {
            x.mend(l, LANE_OPEN, 0);
        }
        due("the only one", x.spare(1, 2), 11);
        due("none", x.spare(1, 3), 9999);
        due("nothing is shut", x.of(11, LANE_OPEN), 1);
        x.hole(0);
        due("a HOLE goes there still", x.spare(1, 3), 1);
        due("a LANE goes there still", x.spare(1, 1), 1);
    }

    // ---- pace, meet

    private void paceRefused() {
        promise(15, "PACE (ab of YARDS): how often (what 0), the first time (1; NOT). BAD.");
        fresh();
        for (int ab : NO_YARDS) {
            due("pace(" + ab + ")", x.pace(ab, 0, 0), BAD);
        }
        for (int m : new int[] {-1, 1000, 1001, MAX, MIN}) {
            due("m " + m, x.pace(0, m, 0), BAD);
            due("m " + m, x.pace(0, m, 1), BAD);
        }
        for (int what : new int[] {-1, 2, MAX, MIN}) {
            due("what " + what, x.pace(0, 0, what), BAD);
        }
        longAs(30);
        due("YARD 29", x.pace(2929, 0, 0), 1);
        due("YARD 30", x.pace(2930, 0, 0), BAD);
        due("YARD 30", x.pace(3029, 0, 0), BAD);
    }

    private void turningAbout() {
        term("one upward, one downward, each turning about at the ends (a minute m: where it is as m minutes are over)");
        longAs(2);
        // upward from 0: 0 1 0 1; downward from 0 turns at once: 0 1 0 1
        due("two YARDS, from one: always", x.pace(0, 999, 0), 1000);
        due("from both: never", x.pace(1, 999, 0), 0);
        due("from both: never", x.pace(1, 999, 1), NOT);
        due("upward from the last one turns at once", x.pace(101, 999, 0), 1000);
        longAs(4);
        // upward from 0: 0 1 2 3 2 1 0; downward from 2: 2 1 0 1 2 3 2
        due("both at 1 in minute 1", x.pace(2, 6, 1), 1);
        due("both at 2 in minute 4, too", x.pace(2, 6, 0), 2);
        due("not by minute 3", x.pace(2, 3, 0), 1);
        due("by minute 4", x.pace(2, 4, 0), 2);
        // upward from 3: 3 2 1 0 1 2 3; downward from 0: 0 1 2 3 2 1 0
        due("both turn at once, never in one YARD", x.pace(300, 999, 1), NOT);
        // upward from 3: 3 2 1 0; downward from 1: 1 0 1 2 3 2 1
        due("both turn", x.pace(301, 6, 1), 2);
    }

    private void howOften() {
        term("m minutes (0 .. 999): how often both are in one YARD at a minute 0 .. m; the first time; NOT.");
        fresh();
        due("at minute 0", x.pace(505, 0, 0), 1);
        due("the first time is 0", x.pace(505, 999, 1), 0);
        due("not at minute 0", x.pace(2, 0, 0), 0);
        due("not yet", x.pace(2, 0, 1), NOT);
        due("at minute 1", x.pace(2, 1, 1), 1);
        longAs(30);
        due("from YARD 0 downward turns at once, so both go together", x.pace(0, 29, 0), 30);
        longAs(3);
        // together every other minute, from minute 1 on
        due("by minute 998", x.pace(2, 998, 0), 499);
        due("by minute 999", x.pace(2, 999, 0), 500);
        longAs(30);
        // one upward from 28 turns at 29; one downward from 29: 28 29 28 27, 29 28 27
        due("one behind the other never", x.pace(2829, 1, 1), NOT);
    }

    private void meetRefused() {
        promise(16, "MEET (ab: on SIDE 0 from YARD a upward, on SIDE 1 from b downward). BAD; NOT.");
        fresh();
        for (int ab : NO_YARDS) {
            due("BAD ahead of NOT, meet(" + ab + ")", x.meet(ab), BAD);
        }
        due("no HOLE", x.meet(0), NOT);
    }

    private void meetNever() {
        term("the first minute both are at one YARD with an OPEN HOLE; NOT within 999.");
        longAs(4);
        x.hole(1);
        x.hole(2);
        due("never in one YARD", x.meet(300), NOT);
        due("one is odd, one even", x.meet(1), NOT);
        // upward from 0: 0 1 2 3 2 1 0; downward from 2: 2 1 0 1 2 3 2
        due("both at 1", x.meet(2), 1);
        x.mend(0, OPEN, 0);
        due("both at 2", x.meet(2), 4);
        x.mend(1, OPEN, 0);
        due("no OPEN HOLE", x.meet(2), NOT);
        due("not at minute 0 either", x.meet(202), NOT);
    }

    private void meetAtHoles() {
        term("MEET: one on SIDE 0, the other on SIDE 1");
        longAs(2);
        x.hole(1);
        due("two YARDS, at minute 0", x.meet(101), 0);
        due("two YARDS, at minute 1", x.meet(0), 1);
        longAs(30);
        x.hole(0);
        due("from 0 and 0 at once", x.meet(0), 0);
        due("both go down together from 29", x.meet(2929), 29);
        x.hole(29);
        due("at once now", x.meet(2929), 0);
        x.mend(0, OPEN, 0);
        due("both go up together from 0", x.meet(0), 29);
        x.mend(0, LONG, 29);
        due("the HOLE is not there", x.meet(0), NOT);
        fresh();
        for (int h = 0; h < 12; h++) {
            x.hole(h);
        }
        due("the twelfth HOLE", x.meet(1111), 0);
        for (int h = 0; h < 11; h++) {
            x.mend(h, OPEN, 0);
        }
        due("only the twelfth", x.meet(0), 11);
    }
}
