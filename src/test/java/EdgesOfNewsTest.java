import java.io.IOException;

/** The boundary cases of news, frost, taxes and bricks, sentence by sentence. */
public final class EdgesOfNewsTest extends Trial {
    private static final int[] NO_PLACES = {24, 2400, 2424, 2324, 99, 9900, 10000, -1, -23, -100, -101, MAX, MIN};
    /** Pairs of digits that are no two unlike OWNERS. */
    private static final int[] NO_OWNERS = {0, 11, 55, 6, 16, 56, 60, 65, 66, 100, 101, -1, -10, -12, MAX, MIN};

    public static void main(String[] args) throws IOException {
        new EdgesOfNewsTest().test(args);
    }

    private void test(String[] args) throws IOException {
        read(args);
        newsRefused();
        newsHeard();
        heardRefused();
        heardBy();
        lastToHear();
        whenceRefused();
        whenceApart();
        frostRefused();
        warmth();
        cold();
        frozen();
        frozenNot();
        taxRefused();
        taxed();
        lendRefused();
        lendTooMuch();
        bricksRefused();
        owing();
        ringsTaken();
        ringsLeft();
        allTried(17, 24);
        check.end();
    }

    // ---- news

    private void newsRefused() {
        promise(17, "NEWS: when a PLACE hears it (ab: told in the one). BAD.");
        fresh();
        for (int ab : NO_PLACES) {
            due("news(" + ab + ")", x.news(ab), BAD);
        }
        longAs(30);
        due("PLACE 59", x.news(5959), 0);
        due("PLACE 60", x.news(5960), BAD);
        due("PLACE 60", x.news(6059), BAD);
    }

    private void newsHeard() {
        term("told on from PLACE to the next YARD's on its SIDE in TELLS minutes (1 .. 30; 3 at first), through the wall by knocks in THICK minutes (either way, HOLES or none)");
        parted(2);
        due("itself at minute 0", x.news(303), 0);
        due("TELLS at first", x.news(2), 3);
        due("THICK at first", x.news(1), 4);
        due("both", x.news(3), 7);
        due("either way", x.news(300), 7);
        x.mend(0, TELLS, 1);
        x.mend(0, THICK, 1);
        due("TELLS 1", x.news(2), 1);
        due("THICK 1", x.news(1), 1);
        x.mend(1, THICK, 9);
        due("round by the thin YARD", x.news(203), 3);
        x.mend(0, TELLS, 30);
        due("not round by TELLS 30", x.news(203), 9);
        x.mend(0, LONG, 30);
        due("from end to end", x.news(58), 870);
        due("and through", x.news(59), 871);
        lawOf("99");
        x.hole(0);
        due("no law, no HOLE changes it", x.news(59), 871);
        due("between the last two", x.news(5958), 4);
        due("from the last one", x.news(5900), 871);
        longAs(5);
        x.mend(0, TELLS, 1);
        all(THICK, 9);
        x.mend(0, THICK, 1);
        due("round by YARD 0", x.news(405), 5);
        due("round by YARD 0 from afar", x.news(607), 7);
        due("as soon through its own", x.news(809), 9);
        due("to another YARD", x.news(407), 6);
    }

    private void heardRefused() {
        promise(18, "How many by m (0 .. 999) minutes (m -1: the last one). BAD.");
        fresh();
        for (int m : new int[] {-2, -3, 1000, 1001, MAX, MIN}) {
            due("m " + m, x.heard(0, m), BAD);
        }
        for (int place : new int[] {-1, 24, 60, MAX, MIN}) {
            due("place " + place, x.heard(place, 0), BAD);
            due("the last one from place " + place, x.heard(place, -1), BAD);
        }
        due("m 0", x.heard(23, 0), 1);
        due("m 999", x.heard(23, 999), 24);
    }

    private void heardBy() {
        term("when a PLACE hears it; how many PLACES by m minutes");
        parted(2);
        // from PLACE 0: PLACE 2 at 3, PLACE 1 at 4, PLACE 3 at 7
        int[] many = {1, 1, 1, 2, 3, 3, 3, 4, 4};
        for (int m = 0; m < many.length; m++) {
            due("by " + m, x.heard(0, m), many[m]);
        }
        longAs(30);
        x.mend(0, TELLS, 30);
        all(THICK, 9);
        due("one minute too few", x.heard(0, 878), 59);
        due("all", x.heard(0, 879), 60);
        due("all in 999", x.heard(0, 999), 60);
    }

    private void lastToHear() {
        term("the last one to hear it (of like ones the greatest)");
        parted(2);
        due("the far corner", x.heard(0, -1), 3);
        due("from there", x.heard(3, -1), 0);
        parted(3);
        due("two corners are as far", x.heard(2, -1), 5);
        due("of like ones the greatest on SIDE 0", x.heard(3, -1), 4);
        x.mend(0, TELLS, 1);
        all(THICK, 9);
        due("through the wall last", x.heard(2, -1), 5);
        x.mend(2, THICK, 1);
        due("the thin YARD sooner", x.heard(2, -1), 1);
        parted(2);
        x.mend(0, TELLS, 1);
        due("from the last PLACE", x.heard(3, -1), 0);
    }

    private void whenceRefused() {
        promise(19, "WHENCE (mn: 100 times the minute in a, and that in b; 0 .. 99 each): how many (what 0), the least (1; NOT). BAD.");
        fresh();
        for (int mn : new int[] {-1, -99, -100, -9999, 10000, 10001, MAX, MIN}) {
            due("mn " + mn, x.whence(1, mn, 0), BAD);
            due("mn " + mn, x.whence(1, mn, 1), BAD);
        }
        for (int what : new int[] {-1, 2, MAX, MIN}) {
            due("what " + what, x.whence(1, 4, what), BAD);
        }
        for (int ab : NO_PLACES) {
            due("ab " + ab, x.whence(ab, 0, 0), BAD);
        }
    }

    private void whenceApart() {
        term("if two PLACES heard it at told minutes, so much apart as these are (no matter when it began): how many such PLACES; the least (NOT).");
        parted(2);
        // PLACE 3 hears 7, -1, 1, -7 minutes behind PLACE 0 of what is told in PLACE 0, 1, 2, 3
        due("at 0 and 7", x.whence(3, 7, 0), 1);
        due("told in 0", x.whence(3, 7, 1), 0);
        due("at 92 and 99", x.whence(3, 9299, 1), 0);
        due("at 99 and 92", x.whence(3, 9992, 1), 3);
        due("at 7 and 0", x.whence(3, 700, 0), 1);
        due("at 1 and 0", x.whence(3, 100, 1), 1);
        due("at 0 and 1", x.whence(3, 1, 1), 2);
        due("at 98 and 99", x.whence(3, 9899, 1), 2);
        due("both at 0: none", x.whence(3, 0, 0), 0);
        due("both at 0: the least", x.whence(3, 0, 1), NOT);
        due("both at 99: none", x.whence(3, 9999, 0), 0);
        due("at 0 and 99: none", x.whence(3, 99, 1), NOT);
        due("at 99 and 0: none", x.whence(3, 9900, 1), NOT);
        due("one PLACE at one minute: all", x.whence(0, 9999, 0), 4);
        due("the least of all", x.whence(303, 0, 1), 0);
        due("one PLACE at two minutes: none", x.whence(0, 9998, 0), 0);
        due("the other way about", x.whence(300, 700, 1), 0);
        longAs(30);
        x.mend(0, TELLS, 30);
        due("more apart than can be told: 870", x.whence(58, 99, 0), 0);
        x.mend(0, TELLS, 3);
        due("87 apart: told in either SIDE", x.whence(58, 87, 0), 2);
        due("the least", x.whence(58, 8700, 1), 58);
        due("of the last two: one SIDE", x.whence(5958, 4, 0), 30);
        due("the least", x.whence(5958, 4, 1), 1);
        due("the other SIDE", x.whence(5958, 400, 1), 0);
    }

    // ---- frost

    private void frostRefused() {
        promise(20, "FROST: WARM of a YARD. BAD.");
        fresh();
        for (int n : new int[] {-1, 61, 62, MAX, MIN}) {
            due("n " + n, x.frost(n, 0), BAD);
        }
        for (int yard : new int[] {-1, 12, 29, 30, MAX, MIN}) {
            due("yard " + yard, x.frost(0, yard), BAD);
        }
        longAs(30);
        due("YARD 29", x.frost(0, 29), 50);
        due("YARD 30", x.frost(0, 30), BAD);
        longAs(2);
        due("YARD 1", x.frost(60, 1), 0);
        due("YARD 2", x.frost(60, 2), BAD);
    }

    private void warmth() {
        term("FROST: n nights (0 .. 60): each YARD is as warm as twice its own WARM and that of both beside it (at an end: its own again), together by 4 (cut)");
        longAs(2);
        x.mend(0, COLD, 0);
        x.mend(0, WARM, 10);
        x.mend(1, WARM, 21);
        due("no night", x.frost(0, 0), 10);
        due("no night", x.frost(0, 1), 21);
        due("51 by 4, cut", x.frost(1, 0), 12);
        due("73 by 4, cut", x.frost(1, 1), 18);
        // 12 and 18: 54 and 66 by 4
        due("two nights", x.frost(2, 0), 13);
        due("two nights", x.frost(2, 1), 16);
        longAs(3);
        x.mend(0, COLD, 0);
        all(WARM, 0);
        x.mend(1, WARM, 99);
        due("99 by 4, cut", x.frost(1, 0), 24);
        due("198 by 4, cut", x.frost(1, 1), 49);
        due("99 by 4, cut", x.frost(1, 2), 24);
        all(WARM, 99);
        due("all alike", x.frost(60, 1), 99);
        due("all by WARM as the night began: nothing is mended", x.of(1, WARM), 99);
        x.mend(0, LONG, 2);
        x.mend(2, WARM, 0);
        due("one beyond LONG warms nobody", x.frost(60, 1), 99);
    }

    private void cold() {
        term("less COLD (0 .. 9; 1 at first) for each 3 THICK it lacks of 9 (cut), 0 at least; all by WARM as the night began: WARM of a YARD then");
        fresh();
        all(WARM, 99);
        x.mend(0, COLD, 9);
        int[] then = {81, 81, 81, 90, 90, 90, 99, 99, 99};
        for (int thick = 1; thick <= 9; thick++) {
            x.mend(5, THICK, thick);
            due("THICK " + thick, x.frost(1, 5), then[thick - 1]);
        }
        x.mend(0, COLD, 0);
        x.mend(5, THICK, 1);
        due("COLD 0", x.frost(60, 5), 99);
        x.mend(0, COLD, 9);
        all(THICK, 1);
        due("99 less 18 five times", x.frost(5, 5), 9);
        due("0 at least", x.frost(6, 5), 0);
        due("0 still", x.frost(7, 5), 0);
        due("0 after 60", x.frost(60, 0), 0);
        all(WARM, 18);
        due("just 0", x.frost(1, 5), 0);
        all(WARM, 19);
        due("just not", x.frost(1, 5), 1);
        all(WARM, 17);
        due("not below 0", x.frost(1, 5), 0);
    }

    private void frozen() {
        term("the first YARD that is 0 (the least night, then the least YARD): it; that night (0: now); NOT within 60.");
        promise(21, "The first YARD (what 0), that night (1). BAD; NOT.");
        for (int what : new int[] {-1, 2, MAX, MIN}) {
            due("what " + what, fresh().frozen(what), BAD);
        }
        fresh();
        x.mend(0, COLD, 0);
        x.mend(11, WARM, 0);
        due("now", x.frozen(1), 0);
        due("the last YARD", x.frozen(0), 11);
        x.mend(3, WARM, 0);
        due("the least YARD", x.frozen(0), 3);
        longAs(3);
        all(WARM, 4);
        all(THICK, 9);
        x.mend(0, COLD, 9);
        x.mend(2, THICK, 1);
        due("the one that freezes first", x.frozen(0), 2);
        due("in a night", x.frozen(1), 1);
        // that night 4 4 0, then 4 3 0
        x.mend(0, THICK, 1);
        due("both in one night: the least", x.frozen(0), 0);
        x.mend(0, WARM, 24);
        due("the one of the least night, not the least YARD", x.frozen(0), 2);
    }

    private void frozenNot() {
        term("NOT within 60.");
        promise(21, "BAD; NOT.");
        fresh();
        all(WARM, 60);
        due("the sixtieth night", x.frozen(1), 60);
        due("the least YARD of all", x.frozen(0), 0);
        due("warm still the night before", x.frost(59, 0), 1);
        all(WARM, 61);
        due("the sixty-first", x.frozen(1), NOT);
        due("the sixty-first", x.frozen(0), NOT);
        due("warm still", x.frost(60, 0), 1);
        due("BAD ahead of NOT", x.frozen(2), BAD);
        all(WARM, 1);
        x.mend(0, COLD, 0);
        due("never", x.frozen(0), NOT);
        x.mend(12, WARM, 0);
        due("one beyond LONG never", x.frozen(0), NOT);
        longAs(30);
        due("thirty YARDS, a degree a night", x.frozen(1), 50);
        due("the last of them, too", x.frost(50, 29), 0);
        due("warm still the night before", x.frost(49, 29), 1);
        x.mend(0, COLD, 0);
        due("thirty YARDS, never", x.frozen(0), NOT);
        x.mend(29, WARM, 0);
        due("the last of thirty now", x.frozen(0), 29);
    }

    // ---- taxes

    private void taxRefused() {
        promise(22, "TAX (0 .. 5). BAD.");
        fresh();
        for (int owner : new int[] {-1, -2, 6, 7, MAX, MIN}) {
            due("owner " + owner, x.tax(owner), BAD);
        }
        due("owner 0", x.tax(0), 0);
        x.mend(0, OWNER, 5);
        due("owner 5", x.tax(5), 3);
    }

    private void taxed() {
        term("RATE (0 .. 99; 3 at first) a YARD, twice for one that is warmer than both beside it (an end: than the one)");
        longAs(2);
        x.mend(0, OWNER, 0);
        x.mend(1, OWNER, 1);
        due("as warm as the one", x.tax(0), 3);
        due("as warm as the one", x.tax(1), 3);
        x.mend(0, WARM, 51);
        due("warmer than the one", x.tax(0), 6);
        due("less warm", x.tax(1), 3);
        x.mend(1, WARM, 52);
        due("less warm", x.tax(0), 3);
        due("warmer than the one", x.tax(1), 6);
        x.mend(2, WARM, 99);
        due("one beyond LONG is not beside it", x.tax(1), 6);
        x.mend(0, LONG, 3);
        due("now it is", x.tax(1), 3);
        x.mend(2, WARM, 52);
        due("as warm as one beside it", x.tax(1), 3);
        x.mend(2, WARM, 51);
        due("warmer than both", x.tax(1), 6);
        x.mend(0, WARM, 52);
        due("as warm as the other", x.tax(1), 3);
        x.mend(0, RATE, 0);
        due("RATE 0", x.tax(1), 0);
        longAs(30);
        all(OWNER, 2);
        x.mend(0, RATE, 99);
        due("thirty YARDS of 99", x.tax(2), 2970);
        for (int y = 0; y < 30; y += 2) {
            x.mend(y, WARM, 99);
        }
        due("every other one twice", x.tax(2), 4455);
        x.mend(0, LONG, 2);
        due("only what is there", x.tax(2), 297);
    }

    // ---- bricks

    private void lendRefused() {
        promise(23, "LEND n (-99 .. 99; below 0: RETURN) of a to b (ab: 10 a and b, unlike): how many then. BAD; STATE: below 0, or more than 999.");
        fresh();
        for (int ab : NO_OWNERS) {
            due("lend(" + ab + ")", x.lend(ab, 1), BAD);
            due("BAD ahead of STATE, lend(" + ab + ")", x.lend(ab, -1), BAD);
        }
        for (int n : new int[] {-100, 100, MAX, MIN}) {
            due("n " + n, x.lend(1, n), BAD);
        }
        due("nothing is lent", x.bricks(1, 1), 0);
        due("a 0, b 5", x.lend(5, 1), 1);
        due("a 5, b 0", x.lend(50, 1), 1);
    }

    private void lendTooMuch() {
        promise(23, "STATE: below 0, or more than 999");
        fresh();
        due("below 0 at once", x.lend(10, -1), STATE);
        due("nothing of nothing", x.lend(10, 0), 0);
        due("99", x.lend(10, 99), 99);
        due("all again", x.lend(10, -99), 0);
        for (int i = 1; i <= 10; i++) {
            due("lend", x.lend(10, 99), 99 * i);
        }
        due("1000", x.lend(10, 10), STATE);
        due("990 still", x.bricks(10, 1), 990);
        due("999", x.lend(10, 9), 999);
        due("1000", x.lend(10, 1), STATE);
        due("999 and nothing", x.lend(10, 0), 999);
        due("the other way is its own", x.lend(1, -1), STATE);
        x.lend(1, 5);
        due("one too many back", x.lend(1, -6), STATE);
        due("5 still", x.bricks(1, 1), 5);
        due("all back", x.lend(1, -5), 0);
        due("the last two", x.lend(54, 7), 7);
        due("the last two", x.lend(54, 7), 14);
        due("the last two", x.lend(45, 7), 7);
        due("the last two", x.lend(54, -14), 0);
        due("the last two", x.bricks(45, 1), 7);
        due("the last two", x.bricks(54, 1), 0);
    }

    private void bricksRefused() {
        promise(24, "BRICKS: what one owes less what it is owed (what 0, ab the one); what a has lent b (1), CLEARED (2). VOID: BAD.");
        fresh();
        for (int one : new int[] {-1, 6, 10, 12, MAX, MIN}) {
            due("one " + one, x.bricks(one, 0), VOID);
        }
        for (int ab : NO_OWNERS) {
            due("bricks(" + ab + ", 1)", x.bricks(ab, 1), VOID);
            due("bricks(" + ab + ", 2)", x.bricks(ab, 2), VOID);
        }
        for (int what : new int[] {-1, 3, MAX, MIN}) {
            due("what " + what, x.bricks(1, what), VOID);
        }
        for (int one = 0; one < 6; one++) {
            due("each of them", x.bricks(one, 0), 0);
        }
    }

    private void owing() {
        term("what one owes all others less what it is owed");
        fresh();
        for (int one = 1; one < 6; one++) {
            for (int i = 0; i < 10; i++) {
                x.lend(10 * one, 99);
            }
            x.lend(10 * one, 9);
        }
        due("all lend 999 to the one", x.bricks(0, 0), 4995);
        due("it is owed", x.bricks(5, 0), -999);
        x.lend(5, 99);
        due("one owes another", x.bricks(0, 0), 4896);
        due("less what it is owed", x.bricks(5, 0), -900);
    }

    private void ringsTaken() {
        term("CLEARED: rings of debts taken off: of all rings of three OWNERS a, b, c (a to b to c to a) the first with all above 0 is lessened by the least of them, again and again, till none is left: what a has lent b then.");
        fresh();
        x.lend(34, 1);
        x.lend(45, 2);
        due("no ring of two debts", x.bricks(34, 2), 1);
        x.lend(53, 3);
        due("the least is ended", x.bricks(34, 2), 0);
        due("one less", x.bricks(45, 2), 1);
        due("one less", x.bricks(53, 2), 2);
        due("lent stays", x.bricks(34, 1), 1);
        x.lend(43, 5);
        due("two who owe one another are no ring", x.bricks(43, 2), 5);
        x.lend(35, 9);
        x.lend(54, 9);
        due("the ring the other way about, too", x.bricks(43, 2), 0);
        due("both rings are taken", x.bricks(34, 2), 0);
        due("the rest", x.bricks(35, 2), 4);
        fresh();
        for (int a = 0; a < 6; a++) {
            for (int b = 0; b < 6; b++) {
                x.lend(10 * a + b, a == b ? 0 : 99);
            }
        }
        // 0 1 2, 0 2 1, 0 3 4, 0 4 3, 1 3 5, 1 5 3, 2 4 5 and 2 5 4 are taken, in this order; these are left
        String left = " 05 50 14 41 23 32 ";
        for (int a = 0; a < 6; a++) {
            for (int b = 0; b < 6; b++) {
                if (a != b) {
                    due("" + a + b + " of all", x.bricks(10 * a + b, 2), left.contains(" " + a + b + " ") ? 99 : 0);
                }
            }
        }
    }

    private void ringsLeft() {
        term("the first with all above 0 is lessened by the least of them, again and again, till none is left");
        fresh();
        // 0 1 2 and 0 1 3 share 0 to 1; 1 2 3 the other way about shares nothing
        x.lend(1, 5);
        x.lend(12, 3);
        x.lend(20, 9);
        x.lend(13, 4);
        x.lend(30, 9);
        due("both rings have taken of it", x.bricks(1, 2), 0);
        due("the first took 3", x.bricks(12, 2), 0);
        due("the first took 3", x.bricks(20, 2), 6);
        due("the second took the 2 left", x.bricks(13, 2), 2);
        due("the second took the 2 left", x.bricks(30, 2), 7);
        x.lend(1, -5);
        due("one is 0: no ring", x.bricks(12, 2), 3);
        due("one is 0: no ring", x.bricks(30, 2), 9);
    }
}
