import java.io.IOException;
import java.util.ArrayList;
import java.util.List;
import java.util.function.Supplier;
import java.util.function.ToLongFunction;

/**
 * Each refused call, once for each way to be refused, in the midst of a full life: it answers as told, and whatever the
 * object can be asked afterwards is as if the call had not come. Calls that only ask change nothing either.
 */
public final class RefusalsTest extends Trial {
    private static final int[] OUT = {MAX, MIN, -1};

    private Supplier<OneWall> life;
    private List<Long> untouched;

    public static void main(String[] args) throws IOException {
        new RefusalsTest().test(args);
    }

    private void test(String[] args) throws IOException {
        read(args);
        term("What is answered so changes nothing.");
        live(this::busy);
        wallRefuses();
        waysRefuse();
        newsRefuse();
        seenRefuse();
        deedsRefuse();
        shelvesRefuse();
        fullOnes();
        emptyOnes();
        standingBeyond();
        onlyAsking();
        namedFirst();
        check.end();
    }

    // ---- lives

    /** Some hundred calls: something of everything, a CHANGE to undo and one to do again, an image behind. */
    private OneWall busy() {
        fresh();
        x.hole(3);
        x.hole(9);
        x.lane(310);
        x.lane(1523);
        lawOf("t+d");
        feedAll("w<6");
        x.mend(4, THICK, 1);
        x.mend(5, WARM, 90);
        x.mend(4, OWNER, 2);
        x.mend(0, DEEP, 3);
        x.mend(1, WIDE, 4);
        x.mend(0, ROUND, 5);
        x.mend(0, RATE, 7);
        x.undo();
        bytes(0, 3, 40, 0, 9, 70, 1);
        shorts(1, 0, 5, 6, 90);
        x.body(1);
        x.body(7);
        x.keep(2, 1);
        fill(4, 3, 5, 6, 7);
        fill(5, 4, 1, 0, 1);
        x.act(1, 3, 5);
        x.lend(1, 40);
        x.lend(12, 30);
        x.lend(20, 20);
        x.go(7);
        x.digs();
        x.image();
        x.lend(34, 9);
        x.go(18);
        x.turn(1, 0);
        return x;
    }

    private OneWall fullWall() {
        fresh();
        for (int i = 0; i < 12; i++) {
            x.hole(i);
            x.lane(i + 1);
        }
        return x;
    }

    private OneWall fullTape() {
        fresh();
        feedAll("1+".repeat(59) + "11");
        return x;
    }

    private OneWall fullBodies() {
        fresh();
        for (int i = 0; i < 50; i++) {
            x.body(i % 8);
        }
        return x;
    }

    private OneWall beyondLong() {
        fresh();
        x.hole(11);
        x.go(22);
        x.mend(0, LONG, 11);
        return x;
    }

    // ---- how a life is read

    /** All that the object tells; THE TAPE, the CHANGES and the image are read last, as that uses them up. */
    private static List<Long> reading(OneWall x) {
        List<Long> told = new ArrayList<>();
        int[] howMany = {30, 30, 30, 12, 12, 12, 12, 2, 1, 1, 1, 1, 12, 12, 12};
        for (int what = 0; what < howMany.length; what++) {
            for (int number = 0; number < howMany[what]; number++) {
                told.add((long) x.of(number, what));
            }
        }
        for (int i = 0; i < 16; i++) {
            told.add((long) x.trace(i));
        }
        for (int what = 0; what < 6; what++) {
            told.add((long) x.count(what));
        }
        for (int shelf = 0; shelf < 6; shelf++) {
            told.add((long) x.taken(shelf, 0));
            for (int i = 0; i < 4; i++) {
                told.add(x.element(shelf, i));
            }
        }
        told.add((long) x.way(2, 0));
        told.add((long) x.law());
        told.add((long) x.way(2, 0));
        deedsOf(x, told);
        changesOf(x, told);
        told.add((long) x.back());
        deedsOf(x, told);
        return told;
    }

    private static void deedsOf(OneWall x, List<Long> told) {
        for (int what = 0; what < 4; what++) {
            told.add((long) x.led(what));
        }
        for (int ab : new int[] {1, 10, 12, 20, 34, 50}) {
            told.add((long) x.bricks(ab, 1));
        }
    }

    private static void changesOf(OneWall x, List<Long> told) {
        for (int i = 0; i < 3; i++) {
            told.add((long) x.redo());
        }
        told.add((long) x.of(0, RATE));
        for (int i = 0; i < 10; i++) {
            told.add((long) x.undo());
        }
        told.add((long) x.of(4, THICK));
        told.add((long) x.of(0, LONG));
        told.add((long) x.of(0, WIDE));
    }

    private void live(Supplier<OneWall> begun) {
        life = begun;
        untouched = reading(life.get());
    }

    private void refused(String call, ToLongFunction<OneWall> made, long want) {
        OneWall one = life.get();
        due(call, made.applyAsLong(one), want);
        due(call + " has changed nothing", reading(one).equals(untouched) ? 1 : 0, 1);
    }

    private void asked(String call, ToLongFunction<OneWall> made) {
        OneWall one = life.get();
        long first = made.applyAsLong(one);
        due(call + ", asked again", made.applyAsLong(one), first);
        due(call + " has changed nothing", reading(one).equals(untouched) ? 1 : 0, 1);
    }

    // ---- the refusals

    private void wallRefuses() {
        for (int yard : new int[] {-1, 12, MAX, MIN}) {
            refused("hole(" + yard + ")", o -> o.hole(yard), BAD);
        }
        for (int ab : new int[] {-1, 101, 24, 2400, MAX, MIN}) {
            refused("lane(" + ab + ")", o -> o.lane(ab), BAD);
        }
        int[][] mended = {{30, 0, 5}, {-1, 0, 5}, {0, 0, 10}, {0, 0, 0}, {0, 1, 100}, {0, 1, -1}, {0, 2, 6}, {0, 2, -2},
            {3, 3, 1}, {0, 3, 2}, {0, 4, 0}, {0, 4, 10}, {2, 5, 1}, {0, 5, -1}, {0, 6, 0}, {0, 6, 10}, {2, 7, 1}, {0, 7, 100},
            {1, 8, 12}, {0, 8, 1}, {0, 8, 31}, {0, 9, 0}, {0, 9, 31}, {0, 10, 10}, {0, 11, 100}, {0, 11, -1}, {0, 12, 1},
            {0, 13, 1}, {0, 14, 1}, {0, 15, 1}, {0, -1, 1}, {MAX, 0, 5}, {MIN, 0, 5}, {0, MAX, 5}, {0, MIN, 5}};
        for (int[] m : mended) {
            refused("mend(" + m[0] + ", " + m[1] + ", " + m[2] + ")", o -> o.mend(m[0], m[1], m[2]), VOID);
        }
        refused("of(30, 0)", o -> o.of(30, 0), VOID);
        refused("of(0, 15)", o -> o.of(0, 15), VOID);
        for (int yn : new int[] {0, 31, 3001, -1, MAX, MIN}) {
            refused("yards(0, 0, " + yn + ")", o -> o.yards(0, 0, yn), BAD);
        }
        refused("yards(6, 0, 1)", o -> o.yards(6, 0, 1), BAD);
        refused("yards of shorts", o -> o.yards(1, 0, 1), -12);
        refused("yards of a BRICK", o -> o.yards(2, 0, 1), -12);
        refused("yards of nothing", o -> o.yards(3, 0, 1), 0);
        refused("yards from behind the end", o -> o.yards(0, 6, 1), 0);
        for (int letter : new int[] {-1, 256, MAX, MIN}) {
            refused("feed(" + letter + ")", o -> o.feed(letter), BAD);
        }
    }

    private void waysRefuse() {
        for (int ab : new int[] {24, 2400, -1, MAX, MIN}) {
            refused("way(" + ab + ", 0)", o -> o.way(ab, 0), BAD);
            refused("spare(" + ab + ", 0)", o -> o.spare(ab, 0), BAD);
        }
        for (int what : OUT) {
            refused("way, what " + what, o -> o.way(1, what), BAD);
            refused("far, what " + what, o -> o.far(1, what), BAD);
            refused("dig, what " + what, o -> o.dig(what), BAD);
            refused("spare, what " + what, o -> o.spare(1, what), BAD);
            refused("pace, what " + what, o -> o.pace(1, 1, what), BAD);
            refused("pace, m " + what, o -> o.pace(1, what, 1), BAD);
            refused("pace, ab " + what, o -> o.pace(what, 1, 1), BAD);
            refused("meet, ab " + what, o -> o.meet(what), BAD);
            refused("reach, sm " + what, o -> o.reach(1, what), BAD);
            refused("reach, place " + what, o -> o.reach(what, 1), BAD);
            refused("far, place " + what, o -> o.far(what, 1), BAD);
        }
        refused("meet: never", o -> o.meet(1), NOT);
    }

    private void newsRefuse() {
        for (int out : OUT) {
            refused("news, ab " + out, o -> o.news(out), BAD);
            refused("heard, place " + out, o -> o.heard(out, 1), BAD);
            refused("whence, ab " + out, o -> o.whence(out, 1, 0), BAD);
            refused("whence, mn " + out, o -> o.whence(1, out, 0), BAD);
            refused("whence, what " + out, o -> o.whence(1, 1, out), BAD);
            refused("frost, n " + out, o -> o.frost(out, 1), BAD);
            refused("frost, yard " + out, o -> o.frost(60, out), BAD);
            refused("frozen, what " + out, o -> o.frozen(out), BAD);
            refused("tax, owner " + out, o -> o.tax(out), BAD);
            refused("lend, ab " + out, o -> o.lend(out, 1), BAD);
            refused("bricks, ab " + out, o -> o.bricks(out, 1), VOID);
            refused("bricks, what " + out, o -> o.bricks(1, out), VOID);
        }
        refused("heard, m -2", o -> o.heard(1, -2), BAD);
        refused("heard, m 1000", o -> o.heard(1, 1000), BAD);
        refused("lend, n 100", o -> o.lend(1, 100), BAD);
        refused("lend, n -100", o -> o.lend(1, -100), BAD);
        refused("lend to itself", o -> o.lend(11, 1), BAD);
        refused("lend below 0", o -> o.lend(1, -41), STATE);
        refused("lend below 0 of none", o -> o.lend(50, -1), STATE);
    }

    private void seenRefuse() {
        refused("oneMan(6)", o -> o.oneMan(6), BAD);
        refused("oneMan of nothing", o -> o.oneMan(3), -11);
        refused("oneMan of bytes", o -> o.oneMan(0), -12);
        refused("oneMan of a BRICK", o -> o.oneMan(2), -12);
        refused("where(6, 95, 1)", o -> o.where(6, 95, 1), BAD);
        refused("where, m -1", o -> o.where(1, -1, 1), BAD);
        refused("where, m 10000", o -> o.where(1, 10000, 1), BAD);
        refused("where, place -2", o -> o.where(1, 95, -2), BAD);
        refused("where, place 24", o -> o.where(1, 95, 24), BAD);
        refused("where of nothing", o -> o.where(3, 95, 1), -11);
        refused("where of bytes", o -> o.where(0, 95, 1), -12);
        refused("where too soon", o -> o.where(1, 89, 1), STATE);
        refused("drawn, place 24", o -> o.drawn(24, 1, 1, 0), BAD);
        refused("drawn, n 0", o -> o.drawn(1, 1, 0, 0), BAD);
        refused("drawn, n 201", o -> o.drawn(1, 1, 201, 0), BAD);
        refused("drawn, what 2", o -> o.drawn(1, 1, 1, 2), BAD);
    }

    private void deedsRefuse() {
        for (int out : OUT) {
            refused("go, place " + out, o -> o.go(out), BAD);
            refused("turn, hole " + out, o -> o.turn(out, 1), BAD);
            refused("turn, open " + out, o -> o.turn(1, out), BAD);
            refused("led, what " + out, o -> o.led(out), BAD);
        }
        refused("go(24)", o -> o.go(24), BAD);
        refused("turn(3, 1)", o -> o.turn(3, 1), BAD);
        refused("turn of a HOLE elsewhere", o -> o.turn(0, 0), STATE);
    }

    private void shelvesRefuse() {
        for (int out : OUT) {
            refused("body(" + out + ")", o -> o.body(out), BAD);
            refused("trace(" + out + ")", o -> o.trace(out), BAD);
            refused("keep, shelf " + out, o -> o.keep(out, 1), BAD);
            refused("row, shelf " + out, o -> o.row(out, 1, 1), BAD);
            refused("row, sort " + out, o -> o.row(1, out, 1), BAD);
            refused("put, shelf " + out, o -> o.put(out, 1, 1), BAD);
            refused("put, i " + out, o -> o.put(1, out, 1), -13);
            refused("element, shelf " + out, o -> o.element(out, 1), NONE);
            refused("element, i " + out, o -> o.element(1, out), NONE);
            refused("shift, shelf " + out, o -> o.shift(out, 0, 1, 0, 1), BAD);
            refused("shift, i " + out, o -> o.shift(1, out, 1, 0, 1), -13);
            refused("shift, other " + out, o -> o.shift(1, 0, out, 0, 1), BAD);
            refused("shift, j " + out, o -> o.shift(1, 0, 1, out, 1), -13);
            refused("shift, n " + out, o -> o.shift(1, 0, 1, 0, out), -13);
            refused("taken, shelf " + out, o -> o.taken(out, 1), BAD);
            refused("taken, k " + out, o -> o.taken(2, out), BAD);
            refused("count, what " + out, o -> o.count(out), BAD);
        }
        refused("body(8)", o -> o.body(8), BAD);
        refused("keep(1, 2)", o -> o.keep(1, 2), BAD);
        refused("keep(1, -2)", o -> o.keep(1, -2), BAD);
        refused("row, n 61", o -> o.row(1, 1, 61), BAD);
        refused("row, n -1", o -> o.row(1, 1, -1), -14);
        refused("row, n least", o -> o.row(1, 1, MIN), -14);
        refused("put in nothing", o -> o.put(3, 0, 1), -11);
        refused("put in a BRICK", o -> o.put(2, 0, 1), -12);
        refused("put behind the end", o -> o.put(1, 4, 1), -13);
        refused("shift one too many", o -> o.shift(4, 0, 4, 1, 3), -13);
        refused("shift of none", o -> o.shift(4, 0, 4, 1, 0), 0);
        refused("shift of unlike sorts", o -> o.shift(0, 0, 1, 0, 1), -12);
        refused("shift of nothing", o -> o.shift(3, 0, 1, 0, 1), -11);
        refused("shift to nothing", o -> o.shift(1, 0, 3, 0, 1), -11);
        refused("shift of a BRICK", o -> o.shift(2, 0, 1, 0, 1), -12);
        refused("taken of nothing", o -> o.taken(3, 1), -11);
        refused("taken of a ROW", o -> o.taken(1, 1), -12);
        refused("taken for another KIND", o -> o.taken(2, 2), -12);
    }

    private void fullOnes() {
        live(this::fullWall);
        refused("a thirteenth HOLE", o -> o.hole(0), FULL);
        refused("a thirteenth LANE", o -> o.lane(1), FULL);
        refused("a thirteenth dug", OneWall::digs, FULL);
        live(this::fullTape);
        refused("a 121st byte", o -> o.feed('1'), FULL);
        live(this::fullBodies);
        refused("a fifty-first BRICK", o -> o.body(0), FULL);
        live(this::fullDebt);
        refused("more than 999", o -> o.lend(50, 10), STATE);
    }

    private OneWall fullDebt() {
        fresh();
        for (int i = 0; i < 10; i++) {
            x.lend(50, 99);
        }
        return x;
    }

    private void emptyOnes() {
        live(OneWall::new);
        refused("undo of none", OneWall::undo, STATE);
        refused("redo of none", OneWall::redo, STATE);
        refused("back to none", OneWall::back, STATE);
        refused("act of none", o -> o.act(0, 0, 1), 0);
        refused("keep of none", o -> o.keep(0, 0), BAD);
        refused("turn of none", o -> o.turn(0, 0), BAD);
        refused("an empty TAPE", OneWall::law, -100);
        refused("spare of none", o -> o.spare(1, 0), NOT);
        live(() -> parted(12));
        refused("go, no WAY", o -> o.go(1), NOT);
        refused("way, none", o -> o.way(1, 0), NOT);
        refused("widest", OneWall::widest, NOT);
    }

    private void standingBeyond() {
        live(this::beyondLong);
        refused("go from beyond LONG", o -> o.go(0), NOT);
        refused("digs beyond LONG", OneWall::digs, STATE);
        refused("turn beyond LONG", o -> o.turn(0, 0), STATE);
    }

    private void onlyAsking() {
        live(this::busy);
        asked("of", o -> o.of(4, 0));
        asked("way", o -> o.way(22, 0));
        asked("first STEP", o -> o.way(22, 1));
        asked("far", o -> o.far(3, 0));
        asked("reach", o -> o.reach(3, 1020));
        asked("widest", OneWall::widest);
        asked("dig", o -> o.dig(0));
        asked("dig, what it is then", o -> o.dig(1));
        asked("spare a HOLE", o -> o.spare(7, 0));
        asked("spare a LANE", o -> o.spare(310, 3));
        asked("pace", o -> o.pace(2, 500, 0));
        asked("meet", o -> o.meet(511));
        asked("news", o -> o.news(22));
        asked("heard", o -> o.heard(2, 20));
        asked("whence", o -> o.whence(4, 6, 0));
        asked("frost", o -> o.frost(60, 5));
        asked("frozen", o -> o.frozen(1));
        asked("tax", o -> o.tax(2));
        asked("bricks", o -> o.bricks(0, 0));
        asked("CLEARED", o -> o.bricks(1, 2));
        asked("oneMan", o -> o.oneMan(1));
        asked("where", o -> o.where(1, 95, -1));
        asked("drawn", o -> o.drawn(4, 7, 200, 0));
        asked("led", o -> o.led(0));
        asked("trace", o -> o.trace(3));
        asked("element", o -> o.element(4, 1));
        asked("taken", o -> o.taken(2, 0));
        asked("count", o -> o.count(3));
    }

    // ---- of several answers the one named first

    private void namedFirst() {
        term("Answers, of several the one named first: BAD (-1): no such number, or it is not as said");
        fullWall();
        due("hole: BAD, FULL", x.hole(12), BAD);
        due("lane: BAD, FULL", x.lane(0), BAD);
        due("digs: FULL, STATE", fullAndBeyond().digs(), FULL);
        due("turn: BAD, STATE", x.turn(0, 2), BAD);
        fullTape();
        due("feed: BAD, FULL", x.feed(256), BAD);
        fullBodies();
        due("body: BAD, FULL", x.body(8), BAD);
        parted(12);
        due("way: BAD, NOT", x.way(1, 2), BAD);
        due("spare: BAD, NOT", x.spare(1, 4), BAD);
        due("meet: BAD, NOT", x.meet(12), BAD);
        due("go: BAD, NOT", x.go(24), BAD);
        due("frozen: BAD, NOT", x.frozen(2), BAD);
        due("lend: BAD, STATE", x.lend(0, -1), BAD);
        due("lend: BAD, STATE", x.lend(1, -100), BAD);
        firstOnShelves();
    }

    private OneWall fullAndBeyond() {
        beyondLong();
        x.mend(0, LONG, 12);
        for (int h = 1; h < 12; h++) {
            x.hole(h);
        }
        x.mend(0, LONG, 11);
        return x;
    }

    private void firstOnShelves() {
        term("-11 nothing is there where something is wanted; -12 it is of another kind; -13 a place that is not there; -14 a size below 0");
        busy();
        due("yards: BAD, -12", x.yards(1, 0, 0), BAD);
        due("oneMan: BAD", x.oneMan(-1), BAD);
        due("where: BAD, -11", x.where(3, -1, 0), BAD);
        due("where: BAD, -12", x.where(0, 0, 24), BAD);
        due("where: BAD, STATE", x.where(1, 0, 24), BAD);
        due("row: BAD, -14", x.row(6, 0, -1), BAD);
        due("row: BAD, -14", x.row(0, 5, -1), BAD);
        due("put: BAD, -13", x.put(6, -1, 0), BAD);
        due("put: -11, -13", x.put(3, -1, 0), -11);
        due("put: -12, -13", x.put(2, -1, 0), -12);
        due("shift: BAD, -11", x.shift(3, 0, 6, 0, 0), BAD);
        due("shift: BAD, -12", x.shift(2, 0, -1, 0, 0), BAD);
        due("shift: -11, -12", x.shift(2, 0, 3, 0, 0), -11);
        due("shift: -11, -13", x.shift(3, -1, 0, -1, -1), -11);
        due("shift: -12, -13", x.shift(0, -1, 1, -1, -1), -12);
        due("taken: BAD, -11", x.taken(3, 8), BAD);
        due("taken: BAD, -12", x.taken(0, 8), BAD);
        due("keep: BAD", x.keep(6, 9), BAD);
    }
}
