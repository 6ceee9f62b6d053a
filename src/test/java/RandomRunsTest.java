import java.lang.reflect.InvocationTargetException;
import java.lang.reflect.Method;
import java.lang.reflect.Modifier;
import java.util.ArrayList;
import java.util.Comparator;
import java.util.List;
import java.util.Random;

/** Runs of drawn calls (by fixed seeds), each answered by OneWall and by PlainCity. */
public final class RandomRunsTest {
    /** The document promises nothing behind an object's 512th call. */
    private static final int RUNS = 600, MOST_CALLS = 512, LONGEST_LAW = 120;
    private static final int[] ODD = {-1, -2, 0, 1, 2, 6, 7, 12, 24, 30, 31, 60, 61, 99, 100, 120, 999, 1000, 2999, 9999,
        10000, Integer.MAX_VALUE, Integer.MIN_VALUE, Integer.MAX_VALUE - 1, -100, -101, 200, 201};
    private static final String LETTERS = "twosyd0123456789()!-+*/%<=>&|?;";

    private final Check check = new Check();
    private final List<Method> faces = new ArrayList<>();
    private Random draw;
    private PlainCity plain;

    public static void main(String[] args) throws Exception {
        new RandomRunsTest().test();
    }

    private void test() throws Exception {
        for (Method m : OneWall.class.getDeclaredMethods()) {
            if (Modifier.isPublic(m.getModifiers())) {
                faces.add(m);
            }
        }
        faces.sort(Comparator.comparing(Method::getName));
        for (int run = 0; run < RUNS; run++) {
            oneRun(run);
        }
        check.end();
    }

    private void oneRun(int run) throws Exception {
        draw = new Random(run);
        OneWall wall = new OneWall();
        plain = new PlainCity();
        // some runs dwell on few calls, so that those come in many states
        List<Method> some = new ArrayList<>(faces);
        while (run % 3 == 0 && some.size() > 12) {
            some.remove(draw.nextInt(some.size()));
        }
        StringBuilder told = new StringBuilder();
        for (int i = 0; i < MOST_CALLS; i++) {
            if (draw.nextInt(25) == 0 && i + LONGEST_LAW + 1 < MOST_CALLS) {
                i += feedLaw(wall);
            }
            Method m = some.get(draw.nextInt(some.size()));
            Object[] args = argsFor(m);
            String call = m.getName() + java.util.Arrays.toString(args);
            long want = answer(PlainCity.class.getMethod(m.getName(), m.getParameterTypes()), plain, args);
            long got;
            try {
                got = answer(m, wall, args);
            } catch (InvocationTargetException e) {
                e.getCause().printStackTrace(System.out);
                check.so("run " + run + ": " + call + " throws nothing", false);
                return;
            }
            told.append(call).append(" = ").append(want).append('\n');
            check.due("run " + run + " call " + i + ": " + call, got, want);
            if (got != want) {
                System.out.println(told);
                return;
            }
        }
    }

    private static long answer(Method m, Object on, Object[] args) throws Exception {
        return ((Number) m.invoke(on, args)).longValue();
    }

    /** A text that is mostly sound, so that the law is often changed and faults come deep in it: how many calls. */
    private int feedLaw(OneWall wall) {
        StringBuilder text = new StringBuilder();
        int lines = 1 + draw.nextInt(3);
        for (int i = 0; i < lines; i++) {
            text.append(i > 0 ? ";" : "").append(sound(draw.nextInt(4)));
            if (draw.nextBoolean()) {
                text.append('?').append(sound(draw.nextInt(4)));
            }
        }
        if (draw.nextInt(4) == 0) {
            text.setCharAt(draw.nextInt(text.length()), LETTERS.charAt(draw.nextInt(LETTERS.length())));
        }
        if (draw.nextInt(10) == 0) {
            text.setLength(draw.nextInt(text.length() + 1));
        }
        text.setLength(Math.min(text.length(), LONGEST_LAW));
        for (int i = 0; i < text.length(); i++) {
            check.due("feed of " + text, wall.feed(text.charAt(i)), plain.feed(text.charAt(i)));
        }
        check.due("law of " + text, wall.law(), plain.law());
        return text.length() + 1;
    }

    private String sound(int depth) {
        if (depth == 0) {
            return draw.nextBoolean() ? String.valueOf(draw.nextInt(draw.nextBoolean() ? 12 : 10000))
                : String.valueOf("twosyd".charAt(draw.nextInt(6)));
        }
        String a = sound(draw.nextInt(depth)), b = sound(draw.nextInt(depth));
        switch (draw.nextInt(5)) {
            case 0: return "(" + a + ")";
            case 1: return "!" + a;
            case 2: return "-" + a;
            default: return a + "+-*/%<=>&|*/%".charAt(draw.nextInt(13)) + b;
        }
    }

    private Object[] argsFor(Method m) {
        Class<?>[] types = m.getParameterTypes();
        Object[] args = new Object[types.length];
        for (int i = 0; i < types.length; i++) {
            int v = draw.nextInt(25) == 0 ? ODD[draw.nextInt(ODD.length)] : arg(m.getName(), i, args);
            args[i] = types[i] == long.class ? (Object) longFrom(v) : (Object) v;
        }
        return args;
    }

    private long longFrom(int v) {
        return draw.nextInt(10) == 0 ? draw.nextLong() : v;
    }

    private int place() {
        return draw.nextInt(2 * plain.longNow);
    }

    private int yard() {
        return draw.nextInt(plain.longNow);
    }

    private int owners() {
        return 10 * draw.nextInt(6) + draw.nextInt(6);
    }

    /** A fitting value for a call's i-th argument, those ahead of it drawn. */
    private int arg(String call, int i, Object[] ahead) {
        switch (call + i) {
            case "hole0": return yard();
            case "lane0": case "way0": case "spare0": case "news0": case "whence0": return 100 * place() + place();
            case "mend0": return draw.nextInt(draw.nextInt(3) == 0 ? 1 : draw.nextInt(2) == 0 ? 12 : 30);
            case "mend1": return (int) ahead[0] == 0 ? draw.nextInt(12) : draw.nextInt(8);
            case "mend2": return mended((int) ahead[1]);
            case "of0": return draw.nextInt(draw.nextBoolean() ? 2 : 12);
            case "of1": return draw.nextInt(15);
            case "yards2": return 100 * draw.nextInt(30) + 1 + draw.nextInt(8);
            case "feed0": return LETTERS.charAt(draw.nextInt(LETTERS.length()));
            case "way1": case "dig0": case "pace2": case "whence2": case "frozen0": case "drawn3": case "turn1":
                return draw.nextInt(2);
            case "far0": case "reach0": case "heard0": case "drawn0": case "go0": return place();
            case "reach1": return 1000 * draw.nextInt(2) + draw.nextInt(draw.nextBoolean() ? 12 : 1000);
            case "pace0": case "meet0": return 100 * yard() + yard();
            case "pace1": return draw.nextInt(draw.nextBoolean() ? 40 : 1000);
            case "spare1": return draw.nextInt(4);
            case "heard1": return draw.nextInt(30) - 1;
            case "whence1": return apart((int) ahead[0]);
            case "frost0": return draw.nextInt(61);
            case "frost1": return yard();
            case "tax0": return draw.nextInt(6);
            case "lend0": case "bricks0": return draw.nextInt(4) == 0 ? draw.nextInt(6) : owners();
            case "lend1": return draw.nextInt(199) - 70;
            case "bricks1": return draw.nextInt(3);
            case "yards1": return draw.nextInt(draw.nextBoolean() ? 4 : 20) - 3;
            case "where1": return draw.nextInt(draw.nextBoolean() ? 20 : 200);
            case "where2": return draw.nextBoolean() ? -1 : place();
            case "drawn1": return draw.nextInt();
            case "drawn2": return 1 + draw.nextInt(draw.nextBoolean() ? 9 : 200);
            case "turn0": return draw.nextInt(1 + plain.holes.size());
            case "act0": return draw.nextInt(1 + plain.bricks.size());
            case "act2": return draw.nextBoolean() ? draw.nextInt() : draw.nextInt(20);
            case "keep1": return draw.nextInt(2 + plain.bricks.size()) - 1;
            case "row1": return draw.nextInt(3) == 0 ? draw.nextInt(5) : draw.nextInt(2);
            case "row2": return draw.nextInt(draw.nextBoolean() ? 8 : 61);
            case "put2": return draw.nextInt(draw.nextBoolean() ? 10 : 70);
            case "body0": case "taken1": return draw.nextInt(8);
            case "yards0": case "oneMan0": case "where0": case "keep0": case "row0": case "put0": case "element0":
            case "shift0": case "shift2": case "taken0": return draw.nextInt(draw.nextBoolean() ? 2 : 6);
            default: return draw.nextInt(draw.nextBoolean() ? 4 : 20);
        }
    }

    /** Of the minutes at which both hear it from some PLACE, most often. */
    private int apart(int ab) {
        if (!plain.pair(ab) || draw.nextInt(4) == 0) {
            return draw.nextInt(10000);
        }
        int p = place();
        return 100 * Math.min(99, plain.news(100 * p + ab / 100)) + Math.min(99, plain.news(100 * p + ab % 100));
    }

    private int mended(int what) {
        switch (what) {
            case 1: return draw.nextInt(draw.nextBoolean() ? 100 : 6);
            case 2: return draw.nextInt(8) - 2;
            case 3: case 5: return draw.nextInt(3);
            case 7: return draw.nextBoolean() ? 0 : draw.nextInt(101);
            case 8: return draw.nextBoolean() ? 2 + draw.nextInt(29) : 2 + draw.nextInt(8);
            case 9: return draw.nextInt(12);
            case 11: return draw.nextInt(101);
            default: return draw.nextInt(11);
        }
    }
}
