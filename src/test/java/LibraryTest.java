import java.io.DataInputStream;
import java.io.IOException;
import java.io.InputStream;
import java.util.Set;

/**
 * LANGUAGE.md's rules 3 and 4, told from the constants of the compiled classes: whatever of the library they call or
 * name stands in the list, and each text is of the signs that are allowed.
 */
public final class LibraryTest {
    private static final Set<String> ALLOWED = Set.of(
        "java/lang/Object.<init>", "java/lang/System.arraycopy",
        "java/lang/Math.min", "java/lang/Math.max", "java/lang/Math.abs",
        "java/util/Arrays.fill", "java/util/Arrays.copyOf", "java/util/Arrays.copyOfRange",
        "java/lang/String.length", "java/lang/String.charAt", "java/lang/String.indexOf",
        "java/lang/String.isEmpty", "java/lang/String.equals", "java/lang/String.substring");
    private static final int TEXT = 1, CLASS = 7, STRING = 8, FIELD_REF = 9, METHOD_REF = 10, INTERFACE_REF = 11,
        NAME_AND_TYPE = 12, METHOD_HANDLE = 15, INVOKE_DYNAMIC = 18;
    private static final Check CHECK = new Check();

    private final String name;
    private int[] tags;
    private int[] firsts;
    private int[] seconds;
    private String[] texts;

    private LibraryTest(String name) {
        this.name = name;
    }

    public static void main(String[] args) throws IOException {
        new LibraryTest(OneWall.class.getName()).test();
        for (Class<?> c : OneWall.class.getDeclaredClasses()) {
            new LibraryTest(c.getName()).test();
        }
        CHECK.end();
    }

    private void test() throws IOException {
        try (InputStream in = OneWall.class.getResourceAsStream(name + ".class")) {
            readConstants(new DataInputStream(in));
        }
        for (int i = 1; i < tags.length; i++) {
            switch (tags[i]) {
                case FIELD_REF, METHOD_REF, INTERFACE_REF -> memberIsAllowed(i);
                case STRING -> CHECK.so(name + ": signs 1 to 127 in " + texts[firsts[i]],
                    texts[firsts[i]].chars().allMatch(sign -> sign > 0 && sign < 128));
                case METHOD_HANDLE, INVOKE_DYNAMIC -> CHECK.so(name + " needs no call that is made up at run time", false);
                default -> { }
            }
        }
    }

    private void memberIsAllowed(int i) {
        String owner = texts[firsts[firsts[i]]];
        String member = owner + "." + texts[firsts[seconds[i]]];
        String type = texts[seconds[seconds[i]]];
        boolean own = owner.equals("OneWall") || owner.startsWith("OneWall$") || owner.startsWith("[");
        CHECK.so(name + " calls " + member + type, own || tags[i] != FIELD_REF && ALLOWED.contains(member));
        boolean ofNumbers = !owner.equals("java/util/Arrays") || !type.contains("Ljava/lang/Object;");
        CHECK.so(name + " has numbers alone in " + member + type, ofNumbers);
    }

    private void readConstants(DataInputStream in) throws IOException {
        in.readInt();
        in.readInt();
        int n = in.readUnsignedShort();
        tags = new int[n];
        firsts = new int[n];
        seconds = new int[n];
        texts = new String[n];
        for (int i = 1; i < n; i++) {
            tags[i] = in.readUnsignedByte();
            switch (tags[i]) {
                case TEXT -> texts[i] = in.readUTF();
                case CLASS, STRING, 16, 19, 20 -> firsts[i] = in.readUnsignedShort();
                case METHOD_HANDLE -> in.skipBytes(3);
                case 3, 4 -> in.skipBytes(4);
                case 5, 6 -> {
                    in.skipBytes(8);
                    i++;
                }
                case FIELD_REF, METHOD_REF, INTERFACE_REF, NAME_AND_TYPE, 17, INVOKE_DYNAMIC -> {
                    firsts[i] = in.readUnsignedShort();
                    seconds[i] = in.readUnsignedShort();
                }
                default -> CHECK.so(name + " has a constant of tag " + tags[i], false);
            }
        }
    }
}
