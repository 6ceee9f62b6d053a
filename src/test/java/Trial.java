import java.io.IOException;
import java.nio.charset.StandardCharsets;
import java.nio.file.Files;
import java.nio.file.Path;
import java.util.Set;
import java.util.TreeSet;

/** What the tests by hand share: the object on trial, ways to bring it into a state, the sentence that is tried. */
abstract class Trial {
    static final int THICK = 0, WARM = 1, OWNER = 2, OPEN = 3, DEEP = 4, LANE_OPEN = 5, WIDE = 6, ROUND = 7;
    static final int LONG = 8, TELLS = 9, COLD = 10, RATE = 11;
    static final int BAD = -1, NOT = -2, FULL = -3, STATE = -5, VOID = -2000000000;
    static final int MAX = Integer.MAX_VALUE, MIN = Integer.MIN_VALUE;
    static final long NONE = Long.MIN_VALUE;

    final Check check = new Check();
    OneWall x;
    private String document = "";
    private String sentence = "";
    private final Set<Integer> tried = new TreeSet<>();

    // ---- the document's sentences

    /** The second argument of each test is the document's path. */
    final void read(String[] args) throws IOException {
        document = Files.readString(Path.of(args[1]), StandardCharsets.UTF_8);
    }

    /** The checks that follow are those of a sentence ahead of the terms: it must stand there, word by word. */
    final void foreword(String words) {
        trySentence(words, between("# OneWall", "## Terms"));
    }

    /** The checks that follow are those of a sentence of the terms. */
    final void term(String words) {
        trySentence(words, between("## Terms", "## Promise 1:"));
    }

    /** The checks that follow are those of a sentence of a promise. */
    final void promise(int number, String words) {
        tried.add(number);
        trySentence(words, between("## Promise " + number + ":", "\n## "));
    }

    private void trySentence(String words, String where) {
        check.so("the document says there: " + words, where.contains(words));
        sentence = words + " | ";
    }

    private String between(String head, String next) {
        int from = document.indexOf(head);
        int to = document.indexOf(next, from + head.length());
        return from < 0 || to < 0 ? "" : document.substring(from, to);
    }

    final void allTried(int first, int last) {
        sentence = "";
        for (int number = first; number <= last; number++) {
            check.so("promise " + number + " has been tried", tried.contains(number));
        }
    }

    final void due(String call, long got, long want) {
        check.due(sentence + call, got, want);
    }

    // ---- the object on trial

    final OneWall fresh() {
        x = new OneWall();
        return x;
    }

    final OneWall longAs(int yards) {
        fresh().mend(0, LONG, yards);
        return x;
    }

    /** Nobody can go round an end, so each SIDE is for itself. */
    final OneWall parted(int yards) {
        longAs(yards).mend(0, ROUND, 0);
        x.mend(1, ROUND, 0);
        return x;
    }

    final void feedAll(String text) {
        for (int i = 0; i < text.length(); i++) {
            x.feed(text.charAt(i));
        }
    }

    /** A law by its text: what law() answers. */
    final int lawOf(String text) {
        feedAll(text);
        return x.law();
    }

    final void all(int what, int v) {
        for (int y = 0; y < 30; y++) {
            x.mend(y, what, v);
        }
    }

    final void bytes(int shelf, int... values) {
        fill(shelf, 0, values);
    }

    final void shorts(int shelf, int... values) {
        fill(shelf, 1, values);
    }

    final void fill(int shelf, int sort, int... values) {
        x.row(shelf, sort, values.length);
        for (int i = 0; i < values.length; i++) {
            x.put(shelf, i, values[i]);
        }
    }

    /** A BRICK of KIND 0 on a SHELF. */
    final void brickOn(int shelf) {
        x.keep(shelf, x.body(0));
    }
}
