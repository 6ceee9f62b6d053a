import java.util.ArrayList;
import java.util.Arrays;
import java.util.List;
import java.util.TreeSet;

/**
 * The document once more, in another manner and with no thought for room or speed: WAYS over a whole table, each trial
 * HOLE really dug, THE LAW worked out on its text, BRICKS as a tree of classes. RandomRunsTest holds OneWall against it.
 */
public final class PlainCity {
    static final int BAD = -1, NOT = -2, FULL = -3, STATE = -5, VOID = -2000000000, NO_WAY = 1000000;

    static final class Hole {
        int yard, open = 1, deep = 1;
        Hole(int yard) { this.yard = yard; }
    }

    static final class Lane {
        int a, b, open = 1, wide = 1;
        Lane(int a, int b) { this.a = a; this.b = b; }
    }

    record Change(int what, int number, int before, int after) { }

    record Row(int sort, long[] elements) { }

    final int[] thick = filled(30, 4), warm = filled(30, 50), owner = filled(30, -1), round = {2, 2};
    int longNow = 12, tells = 3, cold = 1, rate = 3;
    List<Hole> holes = new ArrayList<>();
    List<Lane> lanes = new ArrayList<>();
    final List<Change> done = new ArrayList<>(), undone = new ArrayList<>();
    String tape = "", law = "";
    int[][] lent = new int[6][6], imageLent;
    int[] deeds = new int[4], imageDeeds; // as led() counts them
    final List<Brick> bricks = new ArrayList<>();
    final List<Integer> ran = new ArrayList<>();
    final Object[] shelves = new Object[6];

    static int[] filled(int n, int v) {
        int[] a = new int[n];
        Arrays.fill(a, v);
        return a;
    }

    boolean yard(int y) { return 0 <= y && y < longNow; }
    boolean place(int p) { return 0 <= p && p < 2 * longNow; }
    boolean pair(int ab) { return ab >= 0 && place(ab / 100) && place(ab % 100); }

    // ---- yards, holes, lanes

    public int hole(int yard) {
        if (!yard(yard)) return BAD;
        if (holes.size() == 12) return FULL;
        holes.add(new Hole(yard));
        return holes.size() - 1;
    }

    public int lane(int ab) {
        if (!pair(ab) || ab / 100 == ab % 100) return BAD;
        if (lanes.size() == 12) return FULL;
        lanes.add(new Lane(ab / 100, ab % 100));
        return lanes.size() - 1;
    }

    void set(int what, int number, int v) {
        switch (what) {
            case 0 -> thick[number] = v;
            case 1 -> warm[number] = v;
            case 2 -> owner[number] = v;
            case 3 -> holes.get(number).open = v;
            case 4 -> holes.get(number).deep = v;
            case 5 -> lanes.get(number).open = v;
            case 6 -> lanes.get(number).wide = v;
            case 7 -> round[number] = v;
            case 8 -> longNow = v;
            case 9 -> tells = v;
            case 10 -> cold = v;
            default -> rate = v;
        }
    }

    public int of(int number, int what) {
        if (number < 0) return VOID;
        switch (what) {
            case 0: return number < 30 ? thick[number] : VOID;
            case 1: return number < 30 ? warm[number] : VOID;
            case 2: return number < 30 ? owner[number] : VOID;
            case 3: return number < holes.size() ? holes.get(number).open : VOID;
            case 4: return number < holes.size() ? holes.get(number).deep : VOID;
            case 5: return number < lanes.size() ? lanes.get(number).open : VOID;
            case 6: return number < lanes.size() ? lanes.get(number).wide : VOID;
            case 7: return number < 2 ? round[number] : VOID;
            case 8: return number == 0 ? longNow : VOID;
            case 9: return number == 0 ? tells : VOID;
            case 10: return number == 0 ? cold : VOID;
            case 11: return number == 0 ? rate : VOID;
            case 12: return number < holes.size() ? holes.get(number).yard : VOID;
            case 13: return number < lanes.size() ? lanes.get(number).a : VOID;
            case 14: return number < lanes.size() ? lanes.get(number).b : VOID;
            default: return VOID;
        }
    }

    static boolean fits(int what, long v) {
        return switch (what) {
            case 0, 4, 6 -> 1 <= v && v <= 9;
            case 1, 7, 11 -> 0 <= v && v <= 99;
            case 2 -> -1 <= v && v <= 5;
            case 3, 5 -> v == 0 || v == 1;
            case 8 -> 2 <= v && v <= 30;
            case 9 -> 1 <= v && v <= 30;
            case 10 -> 0 <= v && v <= 9;
            default -> false;
        };
    }

    public int mend(int number, int what, int v) {
        int was = of(number, what);
        if (was == VOID || !fits(what, v)) return VOID;
        if (was != v) {
            done.add(new Change(what, number, was, v));
            if (done.size() > 40) done.remove(0);
            undone.clear();
            set(what, number, v);
        }
        return was;
    }

    public int yards(int shelf, int i, int yn) {
        if (shelf < 0 || shelf > 5 || yn < 0 || yn / 100 > 29 || yn % 100 < 1 || yn % 100 > 30) return BAD;
        if (shelves[shelf] == null) return 0;
        if (!(shelves[shelf] instanceof Row r) || r.sort != 0) return -12;
        int so = 0;
        for (long at = i; so < yn % 100; at += 3) {
            int y = yn / 100 + so;
            if (y > 29 || at < 0 || at + 2 >= r.elements.length) break;
            long t = r.elements[(int) at], w = r.elements[(int) at + 1], o = r.elements[(int) at + 2];
            if (!fits(0, t) || !fits(1, w) || !fits(2, o)) break;
            mend(y, 0, (int) t);
            mend(y, 1, (int) w);
            mend(y, 2, (int) o);
            so++;
        }
        return so;
    }

    public int feed(int letter) {
        if (letter < 0 || letter > 255) return BAD;
        if (tape.length() == 120) return FULL;
        tape += (char) letter;
        return tape.length();
    }

    public int law() {
        String text = tape;
        tape = "";
        int fault = fault(text);
        if (fault >= 0) return -100 - fault;
        law = text;
        return 1;
    }

    /** By what may come next, byte by byte: open ones on a stack, for each bracket whether it has compared. */
    static int fault(String text) {
        StringBuilder open = new StringBuilder();
        boolean[] compared = new boolean[8];
        boolean wants = true, asked = false;
        int digits = 0;
        for (int i = 0; i < text.length(); i++) {
            char c = text.charAt(i);
            int level = (int) open.chars().filter(x -> x == '(').count();
            boolean inNumber = !wants && digits > 0 && Character.isDigit(c);
            if (inNumber) {
                if (++digits > 4) return i;
                continue;
            }
            digits = 0;
            if (wants) {
                if ("(!-".indexOf(c) >= 0) {
                    if (open.length() == 6) return i;
                    open.append(c);
                    if (c == '(') compared[level + 1] = false;
                    continue;
                }
                if (c >= '0' && c <= '9') digits = 1;
                else if ("twosyd".indexOf(c) < 0) return i;
                wants = false;
                dropSigns(open);
                continue;
            }
            if (c == ')') {
                if (level == 0) return i;
                open.setLength(open.length() - 1);
                dropSigns(open);
                continue;
            }
            if ("<=>".indexOf(c) >= 0) {
                if (compared[level]) return i;
                compared[level] = true;
            } else if (c == '|' || c == '&') {
                compared[level] = false;
            } else if (c == '?') {
                if (level > 0 || asked) return i;
                asked = true;
                compared[0] = false;
            } else if (c == ';') {
                if (level > 0) return i;
                asked = false;
                compared[0] = false;
            } else if ("+-*/%".indexOf(c) < 0) {
                return i;
            }
            wants = true;
        }
        return wants || open.length() > 0 ? text.length() : -1;
    }

    static void dropSigns(StringBuilder open) {
        while (open.length() > 0 && open.charAt(open.length() - 1) != '(') open.setLength(open.length() - 1);
    }

    /** The value of a sound text, cut at its weakest sign. */
    static int value(String e, int[] named) {
        for (String signs : new String[] {"|", "&", "<=>", "+-", "*/%"}) {
            int cut = lastBinary(e, signs);
            if (cut >= 0) return joined(e.charAt(cut), value(e.substring(0, cut), named), value(e.substring(cut + 1), named));
        }
        char c = e.charAt(0);
        if (c == '!') return value(e.substring(1), named) == 0 ? 1 : 0;
        if (c == '-') return -value(e.substring(1), named);
        if (c == '(') return value(e.substring(1, e.length() - 1), named);
        return "twosyd".indexOf(c) >= 0 ? named["twosyd".indexOf(c)] : Integer.parseInt(e);
    }

    static int lastBinary(String e, String signs) {
        int depth = 0, cut = -1;
        boolean afterOperand = false;
        for (int i = 0; i < e.length(); i++) {
            char c = e.charAt(i);
            if (c == '(') depth++;
            if (c == ')') depth--;
            if (depth == 0 && afterOperand && signs.indexOf(c) >= 0) cut = i;
            afterOperand = c == ')' || Character.isLetterOrDigit(c);
        }
        return cut;
    }

    static int joined(char sign, int a, int b) {
        return switch (sign) {
            case '|' -> a != 0 || b != 0 ? 1 : 0;
            case '&' -> a != 0 && b != 0 ? 1 : 0;
            case '<' -> a < b ? 1 : 0;
            case '=' -> a == b ? 1 : 0;
            case '>' -> a > b ? 1 : 0;
            case '+' -> a + b;
            case '-' -> a - b;
            case '*' -> a * b;
            case '/' -> b == 0 ? 0 : (int) ((long) a / b);
            default -> b == 0 ? 0 : (int) ((long) a % b);
        };
    }

    int minutes(int y, int side, int up) {
        if (law.isEmpty()) return 1;
        int[] named = {thick[y], warm[y], owner[y], side, y, up};
        int v = 0;
        for (String line : law.split(";")) {
            int ask = line.indexOf('?');
            if (ask < 0 || value(line.substring(0, ask), named) != 0) {
                v = value(line.substring(ask + 1), named);
                break;
            }
        }
        return v < 1 ? 1 : v > 99 ? 99 : v;
    }

    // ---- ways

    int[][] steps() {
        int n = 2 * longNow;
        int[][] s = new int[n][n];
        for (int[] r : s) Arrays.fill(r, NO_WAY);
        for (int p = 0; p < n; p++) {
            if (p + 2 < n) s[p][p + 2] = Math.min(s[p][p + 2], minutes(p / 2, p % 2, 1));
            if (p >= 2) s[p][p - 2] = Math.min(s[p][p - 2], minutes(p / 2, p % 2, 0));
        }
        for (Hole h : holes) if (h.open == 1 && yard(h.yard)) both(s, 2 * h.yard, 2 * h.yard + 1, h.deep);
        for (Lane l : lanes) if (l.open == 1 && place(l.a) && place(l.b)) both(s, l.a, l.b, l.wide);
        if (round[0] > 0) both(s, 0, 1, round[0]);
        if (round[1] > 0) both(s, n - 2, n - 1, round[1]);
        return s;
    }

    static void both(int[][] s, int a, int b, int cost) {
        s[a][b] = Math.min(s[a][b], cost);
        s[b][a] = Math.min(s[b][a], cost);
    }

    static int[][] closed(int[][] s) {
        int n = s.length;
        int[][] d = new int[n][];
        for (int i = 0; i < n; i++) {
            d[i] = s[i].clone();
            d[i][i] = 0;
        }
        for (int k = 0; k < n; k++)
            for (int i = 0; i < n; i++)
                for (int j = 0; j < n; j++) d[i][j] = Math.min(d[i][j], d[i][k] + d[k][j]);
        return d;
    }

    int[][] ways() { return closed(steps()); }

    static int none(int way, int instead) { return way >= NO_WAY ? instead : way; }

    public int way(int ab, int what) {
        if (!pair(ab) || what < 0 || what > 1) return BAD;
        int a = ab / 100, b = ab % 100;
        int[][] s = steps(), d = closed(s);
        if (d[a][b] >= NO_WAY) return NOT;
        if (what == 0) return d[a][b];
        if (a == b) return a;
        int p = 0;
        while (s[a][p] + d[p][b] != d[a][b] || s[a][p] >= NO_WAY) p++;
        return p;
    }

    public int far(int place, int what) {
        if (!place(place) || what < 0 || what > 2) return BAD;
        int[] d = ways()[place];
        int most = Arrays.stream(d).filter(x -> x < NO_WAY).max().getAsInt();
        if (what == 0) return most;
        if (what == 2) return (int) Arrays.stream(d).filter(x -> x < NO_WAY).count();
        int p = 0;
        while (d[p] != most) p++;
        return p;
    }

    public int reach(int place, int sm) {
        if (!place(place) || sm < 0 || sm > 1999) return BAD;
        int[] d = ways()[place];
        int bits = 0;
        for (int y = 0; y < longNow; y++) if (d[2 * y + sm / 1000] <= sm % 1000) bits += 1 << y;
        return bits;
    }

    public int widest() {
        int most = 0;
        for (int[] r : ways()) for (int d : r) most = Math.max(most, d);
        return none(most, NOT);
    }

    public int dig(int what) {
        if (what < 0 || what > 1) return BAD;
        int best = NO_WAY, yard = -1;
        for (int y = 0; y < longNow; y++) {
            holes.add(new Hole(y));
            int w = widest();
            holes.remove(holes.size() - 1);
            if (w == NOT) w = 9999;
            if (w < best) { best = w; yard = y; }
        }
        return what == 0 ? yard : best;
    }

    public int spare(int ab, int what) {
        if (!pair(ab) || what < 0 || what > 3) return BAD;
        int best = NOT, which = NOT;
        for (int i = 0; i < (what < 2 ? holes.size() : lanes.size()); i++) {
            if (what < 2) {
                if (holes.get(i).open == 0 || !yard(holes.get(i).yard)) continue;
                holes.get(i).open = 0;
            } else {
                if (lanes.get(i).open == 0 || !place(lanes.get(i).a) || !place(lanes.get(i).b)) continue;
                lanes.get(i).open = 0;
            }
            int w = none(ways()[ab / 100][ab % 100], 9999);
            if (what < 2) holes.get(i).open = 1; else lanes.get(i).open = 1;
            if (w > best) { best = w; which = i; }
        }
        return what == 0 || what == 2 ? which : best;
    }

    /** Where one is at each minute, stride by stride. */
    int[] stroll(int yard, int stride) {
        int[] at = new int[1000];
        at[0] = yard;
        for (int m = 1; m < 1000; m++) {
            if (!yard(at[m - 1] + stride)) stride = -stride;
            at[m] = at[m - 1] + stride;
        }
        return at;
    }

    public int pace(int ab, int m, int what) {
        if (ab < 0 || !yard(ab / 100) || !yard(ab % 100) || m < 0 || m > 999 || what < 0 || what > 1) return BAD;
        int[] u = stroll(ab / 100, 1), v = stroll(ab % 100, -1);
        int often = 0, first = NOT;
        for (int t = m; t >= 0; t--) if (u[t] == v[t]) { often++; first = t; }
        return what == 0 ? often : first;
    }

    public int meet(int ab) {
        if (ab < 0 || !yard(ab / 100) || !yard(ab % 100)) return BAD;
        int[] u = stroll(ab / 100, 1), v = stroll(ab % 100, -1);
        for (int t = 0; t < 1000; t++)
            for (Hole h : holes) if (h.open == 1 && h.yard == u[t] && u[t] == v[t]) return t;
        return NOT;
    }

    // ---- news, frost, bricks

    int[][] told() {
        int n = 2 * longNow;
        int[][] s = new int[n][n];
        for (int[] r : s) Arrays.fill(r, NO_WAY);
        for (int p = 0; p + 2 < n; p++) both(s, p, p + 2, tells);
        for (int y = 0; y < longNow; y++) both(s, 2 * y, 2 * y + 1, thick[y]);
        return closed(s);
    }

    public int news(int ab) { return pair(ab) ? told()[ab / 100][ab % 100] : BAD; }

    public int heard(int place, int m) {
        if (!place(place) || m < -1 || m > 999) return BAD;
        int[] d = told()[place];
        if (m >= 0) return (int) Arrays.stream(d).filter(x -> x <= m).count();
        int p = d.length - 1;
        while (d[p] != Arrays.stream(d).max().getAsInt()) p--;
        return p;
    }

    public int whence(int ab, int mn, int what) {
        if (!pair(ab) || mn < 0 || mn > 9999 || what < 0 || what > 1) return BAD;
        TreeSet<Integer> from = new TreeSet<>();
        int[][] d = told();
        for (int p = 0; p < d.length; p++) if (mn / 100 - d[p][ab / 100] == mn % 100 - d[p][ab % 100]) from.add(p);
        return what == 0 ? from.size() : from.isEmpty() ? NOT : from.first();
    }

    int[] after(int nights) {
        int[] w = Arrays.copyOf(warm, longNow);
        for (int n = 0; n < nights; n++) {
            int[] was = w.clone();
            for (int y = 0; y < longNow; y++) {
                int sum = 2 * was[y] + was[Math.max(0, y - 1)] + was[Math.min(longNow - 1, y + 1)];
                w[y] = Math.max(0, sum / 4 - cold * ((9 - thick[y]) / 3));
            }
        }
        return w;
    }

    public int frost(int n, int yard) { return n < 0 || n > 60 || !yard(yard) ? BAD : after(n)[yard]; }

    public int frozen(int what) {
        if (what < 0 || what > 1) return BAD;
        for (int n = 0; n <= 60; n++) {
            int[] w = after(n);
            for (int y = 0; y < longNow; y++) if (w[y] == 0) return what == 0 ? y : n;
        }
        return NOT;
    }

    public int tax(int one) {
        if (one < 0 || one > 5) return BAD;
        int sum = 0;
        for (int y = 0; y < longNow; y++) {
            if (owner[y] != one) continue;
            sum += rate;
            if (!(y > 0 && warm[y - 1] >= warm[y]) && !(y < longNow - 1 && warm[y + 1] >= warm[y])) sum += rate;
        }
        return sum;
    }

    static boolean owners(int ab) { return ab >= 0 && ab / 10 < 6 && ab % 10 < 6 && ab / 10 != ab % 10; }

    public int lend(int ab, int n) {
        if (!owners(ab) || n < -99 || n > 99) return BAD;
        int then = lent[ab / 10][ab % 10] + n;
        if (then < 0 || then > 999) return STATE;
        return lent[ab / 10][ab % 10] = then;
    }

    public int bricks(int ab, int what) {
        if (what == 0 && ab >= 0 && ab < 6) {
            int sum = 0;
            for (int i = 0; i < 6; i++) sum += lent[i][ab] - lent[ab][i];
            return sum;
        }
        if (what != 1 && what != 2 || !owners(ab)) return VOID;
        int[][] l = what == 1 ? lent : cleared();
        return l[ab / 10][ab % 10];
    }

    int[][] cleared() {
        int[][] l = new int[6][];
        for (int i = 0; i < 6; i++) l[i] = lent[i].clone();
        again:
        while (true) {
            for (int abc = 0; abc < 216; abc++) {
                int a = abc / 36, b = abc / 6 % 6, c = abc % 6;
                int least = Math.min(l[a][b], Math.min(l[b][c], l[c][a]));
                if (a == b || b == c || c == a || least <= 0) continue;
                l[a][b] -= least;
                l[b][c] -= least;
                l[c][a] -= least;
                continue again;
            }
            return l;
        }
    }

    // ---- seen, drawn

    int refused(int shelf) {
        if (shelf < 0 || shelf > 5) return BAD;
        if (shelves[shelf] == null) return -11;
        return shelves[shelf] instanceof Row r && r.sort == 1 ? 0 : -12;
    }

    public int oneMan(int shelf) {
        if (refused(shelf) != 0) return refused(shelf);
        long[] r = ((Row) shelves[shelf]).elements;
        int[][] d = ways();
        for (int i = 0; 2 * i < r.length; i++) {
            if (2 * i + 1 == r.length) return i;
            long p = r[2 * i], m = r[2 * i + 1];
            if (p < 0 || p >= 2 * longNow || m < 0 || m > 9999) return i;
            if (i > 0 && d[(int) r[2 * i - 2]][(int) p] > m - r[2 * i - 1]) return i;
        }
        return NOT;
    }

    public int where(int shelf, int m, int place) {
        if (shelf < 0 || shelf > 5 || m < 0 || m > 9999 || place != -1 && !place(place)) return BAD;
        if (refused(shelf) != 0) return refused(shelf);
        long[] r = ((Row) shelves[shelf]).elements;
        int twos = r.length / 2;
        if (twos > 0 && r.length == 2 * twos && m < r[2 * twos - 1]) return STATE;
        if (oneMan(shelf) != NOT) return 0;
        int many = 0;
        for (int p = 0; p < 2 * longNow; p++) {
            boolean may = twos == 0 || ways()[(int) r[2 * twos - 2]][p] <= m - r[2 * twos - 1];
            if (may && (place == -1 || place == p)) many++;
        }
        return many;
    }

    public int drawn(int place, int seed, int n, int what) {
        if (!place(place) || n < 1 || n > 200 || what < 0 || what > 1) return BAD;
        int[][] s = steps();
        TreeSet<Integer> was = new TreeSet<>(List.of(place));
        int at = place, z = seed;
        for (int i = 0; i < n; i++) {
            z = z * 1103515245 + 12345;
            List<Integer> next = new ArrayList<>();
            for (int p = 0; p < s.length; p++) if (s[at][p] < NO_WAY) next.add(p);
            if (!next.isEmpty()) at = next.get((z >>> 8) % next.size());
            was.add(at);
        }
        return what == 0 ? at : was.size();
    }

    // ---- in deed

    public int go(int place) {
        if (!place(place)) return BAD;
        if (!place(deeds[3])) return NOT;
        int w = ways()[deeds[3]][place];
        if (w >= NO_WAY) return NOT;
        deeds[0] += w;
        deeds[1]++;
        deeds[3] = place;
        return w;
    }

    public int digs() {
        if (holes.size() == 12) return FULL;
        if (!place(deeds[3])) return STATE;
        deeds[0] += 60;
        deeds[2]++;
        return hole(deeds[3] / 2);
    }

    public int turn(int hole, int open) {
        if (hole < 0 || hole >= holes.size() || open < 0 || open > 1) return BAD;
        Hole h = holes.get(hole);
        if (!place(deeds[3]) || h.yard != deeds[3] / 2) return STATE;
        int was = h.open;
        h.open = open;
        deeds[0]++;
        return was;
    }

    public int led(int what) { return what < 0 || what > 3 ? BAD : deeds[what]; }

    public int image() {
        imageDeeds = deeds.clone();
        imageLent = new int[6][];
        for (int i = 0; i < 6; i++) imageLent[i] = lent[i].clone();
        return deeds[0];
    }

    public int back() {
        if (imageDeeds == null) return STATE;
        deeds = imageDeeds.clone();
        for (int i = 0; i < 6; i++) lent[i] = imageLent[i].clone();
        return deeds[0];
    }

    public int undo() {
        if (done.isEmpty()) return STATE;
        Change c = done.remove(done.size() - 1);
        undone.add(c);
        set(c.what, c.number, c.before);
        return done.size();
    }

    public int redo() {
        if (undone.isEmpty()) return STATE;
        Change c = undone.remove(undone.size() - 1);
        done.add(c);
        set(c.what, c.number, c.after);
        return undone.size();
    }

    // ---- acts, shelves

    interface Stands {
        int number();
        List<Integer> trace();
        default int stands(int x) { trace().add(1); return x + number(); }
    }

    interface Tells {
        int bears(int x);
        int knocks(int x);
        List<Integer> trace();
        default int tells(int x) { trace().add(2); return bears(x) - knocks(1); }
    }

    static class Brick implements Stands, Tells {
        int n;
        List<Integer> t;
        public int number() { return n; }
        public List<Integer> trace() { return t; }
        public int bears(int x) { t.add(10); return stands(x) * 2; }
        public int knocks(int x) { t.add(11); return x ^ n; }
    }

    static class Bend extends Brick {
        public int stands(int x) { t.add(20); return super.stands(x) + 3; }
    }

    static class HoleBrick extends Brick {
        public int bears(int x) { t.add(30); return -super.bears(x); }
    }

    static class Cupboard extends HoleBrick {
        public int knocks(int x) { t.add(40); return super.knocks(x) * 3; }
        public int bears(int x) { t.add(41); return super.bears(x + 1); }
    }

    static class Corner extends Bend {
        public int knocks(int x) { t.add(50); return super.knocks(x) - stands(2); }
    }

    static class Tunnel extends Cupboard {
        public int tells(int x) { t.add(60); return super.tells(x) ^ 5; }
    }

    static class Ivy extends Brick {
        public int stands(int x) { t.add(70); return super.stands(x) * 2; }
    }

    static class End extends Corner {
        public int bears(int x) { t.add(80); return super.bears(x) + knocks(2); }
        public int tells(int x) { t.add(81); return super.tells(x) - 1; }
    }

    static final List<Class<?>> KINDS = List.of(Brick.class, Bend.class, HoleBrick.class, Cupboard.class, Corner.class,
        Tunnel.class, Ivy.class, End.class);

    static Brick made(int kind) {
        return switch (kind) {
            case 0 -> new Brick();
            case 1 -> new Bend();
            case 2 -> new HoleBrick();
            case 3 -> new Cupboard();
            case 4 -> new Corner();
            case 5 -> new Tunnel();
            case 6 -> new Ivy();
            default -> new End();
        };
    }

    public int body(int kind) {
        if (kind < 0 || kind > 7) return BAD;
        if (bricks.size() == 50) return FULL;
        Brick b = made(kind);
        b.n = bricks.size();
        b.t = ran;
        bricks.add(b);
        return b.n;
    }

    public int act(int body, int act, int x) {
        ran.clear();
        if (body < 0 || body >= bricks.size()) return 0;
        Brick b = bricks.get(body);
        return switch (act) {
            case 0 -> b.stands(x);
            case 1 -> b.bears(x);
            case 2 -> b.knocks(x);
            case 3 -> b.tells(x);
            default -> 0;
        };
    }

    public int trace(int i) { return i < 0 || i >= ran.size() || i >= 24 ? BAD : ran.get(i); }

    public int keep(int shelf, int body) {
        if (shelf < 0 || shelf > 5 || body < -1 || body >= bricks.size()) return BAD;
        shelves[shelf] = body == -1 ? null : bricks.get(body);
        return 1;
    }

    public int row(int shelf, int sort, int n) {
        if (shelf < 0 || shelf > 5 || sort < 0 || sort > 4 || n > 60) return BAD;
        if (n < 0) return -14;
        shelves[shelf] = new Row(sort, new long[n]);
        return 1;
    }

    int refusedElement(int shelf, int i) {
        if (shelf < 0 || shelf > 5) return BAD;
        if (shelves[shelf] == null) return -11;
        if (!(shelves[shelf] instanceof Row r)) return -12;
        return i < 0 || i >= r.elements.length ? -13 : 0;
    }

    public int put(int shelf, int i, long v) {
        int refused = refusedElement(shelf, i);
        if (refused != 0) return refused;
        Row r = (Row) shelves[shelf];
        r.elements[i] = switch (r.sort) {
            case 0 -> (byte) v;
            case 1 -> (short) v;
            case 2 -> (int) v;
            case 3 -> v;
            default -> v == 0 ? 0 : 1;
        };
        return 1;
    }

    public long element(int shelf, int i) {
        return refusedElement(shelf, i) != 0 ? Long.MIN_VALUE : ((Row) shelves[shelf]).elements[i];
    }

    public int shift(int shelf, int i, int other, int j, int n) {
        if (shelf < 0 || shelf > 5 || other < 0 || other > 5) return BAD;
        if (shelves[shelf] == null || shelves[other] == null) return -11;
        if (!(shelves[shelf] instanceof Row r) || !(shelves[other] instanceof Row s) || r.sort != s.sort) return -12;
        if (i < 0 || j < 0 || n < 0 || n > r.elements.length - i || n > s.elements.length - j) return -13;
        long[] taken = Arrays.copyOfRange(r.elements, i, i + n);
        for (int k = 0; k < n; k++) s.elements[j + k] = taken[k];
        return n;
    }

    public int taken(int shelf, int k) {
        if (shelf < 0 || shelf > 5 || k < 0 || k > 7) return BAD;
        if (shelves[shelf] == null) return -11;
        return KINDS.get(k).isInstance(shelves[shelf]) ? KINDS.indexOf(shelves[shelf].getClass()) : -12;
    }

    public int count(int what) {
        return switch (what) {
            case 0 -> holes.size();
            case 1 -> lanes.size();
            case 2 -> tape.length();
            case 3 -> done.size();
            case 4 -> bricks.size();
            case 5 -> ran.size();
            default -> BAD;
        };
    }
}
