import java.io.IOException;
import java.lang.reflect.Field;
import java.lang.reflect.Method;
import java.lang.reflect.Modifier;
import java.nio.charset.StandardCharsets;
import java.nio.file.Files;
import java.nio.file.Path;
import java.util.ArrayList;
import java.util.Arrays;
import java.util.HashSet;
import java.util.List;
import java.util.Set;
import java.util.TreeSet;
import java.util.regex.Matcher;
import java.util.regex.Pattern;

/** The document's face, and those rules of LANGUAGE.md that can be told from the source and the compiled class. */
public final class LanguageTest {
    private static final Check CHECK = new Check();

    /** The program's source file and the document. */
    public static void main(String[] args) throws IOException {
        String source = Files.readString(Path.of(args[0]), StandardCharsets.ISO_8859_1);
        faceIsTheDocuments(Files.readString(Path.of(args[1])));
        List<Class<?>> classes = new ArrayList<>(List.of(OneWall.class));
        classes.addAll(Arrays.asList(OneWall.class.getDeclaredClasses()));
        CHECK.so("at most twelve classes", classes.size() <= 12);
        Set<String> publicNames = new HashSet<>();
        for (Method m : OneWall.class.getDeclaredMethods()) {
            if (Modifier.isPublic(m.getModifiers())) {
                publicNames.add(m.getName());
            }
        }
        for (Class<?> c : classes) {
            classKeepsTheRules(c, publicNames);
        }
        sourceKeepsTheRules(source);
        CHECK.end();
    }

    private static void faceIsTheDocuments(String document) {
        Matcher block = Pattern.compile("```java\n(.*?)```", Pattern.DOTALL).matcher(document);
        CHECK.so("the document shows a face", block.find());
        Set<String> promised = new TreeSet<>();
        Matcher line = Pattern.compile("public (int|long) (\\w+)\\((.*?)\\);").matcher(block.group(1));
        while (line.find()) {
            promised.add(line.group(1) + " " + line.group(2) + " " + line.group(3).replaceAll("(int|long) \\w+", "$1"));
        }
        Set<String> made = new TreeSet<>();
        for (Method m : OneWall.class.getDeclaredMethods()) {
            if (!Modifier.isPrivate(m.getModifiers()) && !m.isSynthetic()) {
                CHECK.so(m.getName() + " is public", Modifier.isPublic(m.getModifiers()));
                List<String> types = new ArrayList<>();
                for (Class<?> t : m.getParameterTypes()) {
                    types.add(t.getName());
                }
                made.add(m.getReturnType().getName() + " " + m.getName() + " " + String.join(", ", types));
            }
        }
        CHECK.so("the methods are " + promised + " and not " + made, made.equals(promised));
        Set<String> constants = new TreeSet<>();
        for (Field f : OneWall.class.getDeclaredFields()) {
            if (!Modifier.isPrivate(f.getModifiers())) {
                constants.add(f.getName());
            }
        }
        CHECK.so("the constants, not " + constants,
            constants.equals(Set.of("BAD", "NOT", "FULL", "STATE", "VOID")));
        CHECK.due("constructors", OneWall.class.getConstructors().length, 1);
    }

    private static void classKeepsTheRules(Class<?> c, Set<String> publicNames) {
        if (c != OneWall.class) {
            CHECK.so(c + " is static", Modifier.isStatic(c.getModifiers()));
            CHECK.due(c + " has no classes of its own", c.getDeclaredClasses().length, 0);
        }
        int fields = 0;
        for (Field f : c.getDeclaredFields()) {
            if (Modifier.isStatic(f.getModifiers())) {
                CHECK.so(f + " is final", Modifier.isFinal(f.getModifiers()));
                boolean plain = f.getType().isPrimitive() || f.getType() == String.class || f.getType() == int[].class;
                CHECK.so(f + " is a constant", plain);
            } else {
                fields++;
            }
        }
        CHECK.so(c + " has at most twenty fields", fields <= 20);
        for (Method m : c.getDeclaredMethods()) {
            if (!Modifier.isPublic(m.getModifiers())) {
                CHECK.so(m + " bears a name of its own", !publicNames.contains(m.getName()));
            }
            CHECK.so(m + " takes at most seven parameters", m.getParameterCount() <= 7);
        }
    }

    private static void sourceKeepsTheRules(String source) {
        CHECK.so("signs 1 to 127", source.chars().allMatch(c -> c > 0 && c < 128));
        String bare = source.replaceAll("(?s)/\\*.*?\\*/", " ").replaceAll("//[^\n]*", " ")
            .replaceAll("\"(\\\\.|[^\"\\\\])*\"", "\"\"").replaceAll("'(\\\\.|[^'\\\\])'", "' '");
        for (String word : new String[] {"throw", "throws", "try", "catch", "synchronized", "assert", "package",
            "instanceof Object", "Object", "System\\.out", "Math\\.\\w+Exact", "hashCode", "equals", "toString", "native"}) {
            CHECK.so("no " + word, !Pattern.compile("\\b" + word + "\\b").matcher(bare).find());
        }
        CHECK.so("no lambda, no method reference", !bare.contains("->") && !bare.contains("::"));
        Matcher imports = Pattern.compile("import ([\\w.]+);").matcher(bare);
        while (imports.find()) {
            CHECK.so("import of " + imports.group(1), imports.group(1).equals("java.util.Arrays"));
        }
        methodsAreShort(source.split("\n"));
    }

    private static void methodsAreShort(String[] lines) {
        for (int i = 0; i < lines.length; i++) {
            Matcher head = Pattern.compile("^( +)(?:[\\w\\[\\]]+ )*[\\w\\[\\]]+\\([^;]*\\) \\{$").matcher(lines[i]);
            if (!head.find() || lines[i].matches(" *(if|for|while|switch|\\} else).*")) {
                continue;
            }
            int end = i;
            while (end < lines.length && !lines[end].equals(head.group(1) + "}")) {
                end++;
            }
            CHECK.so("the method of line " + (i + 1) + " is short", end - i < 60);
        }
    }
}
