import java.io.IOException;
import java.lang.reflect.Constructor;
import java.lang.reflect.Field;
import java.lang.reflect.Method;
import java.lang.reflect.Modifier;
import java.nio.charset.StandardCharsets;
import java.nio.file.Files;
import java.nio.file.Path;
import java.util.Arrays;
import java.util.Set;
import java.util.TreeSet;
import java.util.regex.Matcher;
import java.util.regex.Pattern;

/** The class's face is the document's, and its file keeps to what of LANGUAGE.md a look at it can tell. */
public final class FaceTest {
    private static final String[] FACE = {
        "int player()", "int meet(int, int, int, int)", "int feed(int, int, int, int, int)", "int sheet(int)",
        "boolean drop(int)", "int next(int, int)", "boolean rule(int, int, int)", "int tie(int)", "int ties()",
        "int meeting(int, int)", "int over(int, int)", "int score(int)", "int number(int, int)", "int table(int)",
        "boolean tied(int)", "int heaps()", "int heap(int)", "long gap(int, int)", "int cost(long)", "int best()",
        "int rows()", "long first()", "int bound()", "int core()", "int champion()", "int walks()", "int may(int)",
        "int why(int)", "int undo(int)", "int about(int)"};

    private static final String[] FORBIDDEN = {"throw", "throws", "try", "catch", "synchronized", "assert", "volatile",
        "->", "::", "\\w+Exact", "@Override", "equals", "hashCode", "package", "Object", "protected", "Random",
        "nanoTime", "currentTimeMillis", "double", "float"};

    /** What the file takes of the library: of LANGUAGE.md's list, and no more than it needs. */
    private static final Set<String> LIBRARY = Set.of("Arrays.fill", "System.arraycopy", "Integer.compare",
        "Integer.bitCount", "Integer.numberOfTrailingZeros", "Math.min", "Math.max", "Math.abs");

    private static final int MOST_LINES = 60;

    private static String shape(Method m) {
        StringBuilder text = new StringBuilder(m.getReturnType().getName()).append(' ').append(m.getName()).append('(');
        for (int i = 0; i < m.getParameterCount(); i++) {
            text.append(i == 0 ? "" : ", ").append(m.getParameterTypes()[i].getName());
        }
        return text.append(')').toString();
    }

    /** The document's own list, where the document is at hand, must be the one that the class is held against. */
    private static void checkDocument(Check check, Path document) throws IOException {
        if (!Files.exists(document)) {
            System.out.println("without " + document + " nobody looks whether the face is the document's");
            return;
        }
        String text = Files.readString(document, StandardCharsets.UTF_8);
        Matcher block = Pattern.compile("(?s)## The public face\\s+```java(.*?)```").matcher(text);
        check.isTrue("the document tells a face", block.find());
        String face = block.group(1);
        Set<String> told = new TreeSet<>();
        Matcher methods = Pattern.compile("public (\\w+ \\w+)\\(([^)]*)\\);").matcher(face);
        while (methods.find()) {
            told.add(methods.group(1) + "(" + methods.group(2).replaceAll("(\\w+) \\w+", "$1") + ")");
        }
        check.isTrue("the document's methods: " + told, told.equals(new TreeSet<>(Arrays.asList(FACE))));
        check.isTrue("the document's class", face.contains("public final class MeetingRanks {"));
        check.isTrue("the document's constructor", face.contains("public MeetingRanks();"));
        check.due("all that the document's face has", face.split("\\bpublic\\b").length - 1, FACE.length + 3);
        check.isTrue("the document's constant", face.contains("public static final int NONE = -1;"));
    }

    private static void checkMembers(Check check) throws ReflectiveOperationException {
        Class<?> c = MeetingRanks.class;
        check.due("public and final", c.getModifiers(), Modifier.PUBLIC | Modifier.FINAL);
        check.due("constructors", c.getDeclaredConstructors().length, 1);
        Constructor<?> made = c.getDeclaredConstructors()[0];
        check.isTrue("the constructor is public and bare",
                Modifier.isPublic(made.getModifiers()) && made.getParameterCount() == 0);
        Set<String> open = new TreeSet<>();
        Set<String> hidden = new TreeSet<>();
        for (Method m : c.getDeclaredMethods()) {
            if (Modifier.isPrivate(m.getModifiers())) {
                hidden.add(m.getName());
            } else {
                open.add(shape(m));
                check.isTrue(m.getName() + " is public and no more", m.getModifiers() == Modifier.PUBLIC);
            }
            check.isTrue(m + " has at most seven parameters", m.getParameterCount() <= 7);
        }
        check.isTrue("the methods are the document's: " + open, open.equals(new TreeSet<>(Arrays.asList(FACE))));
        for (Class<?> inner : c.getDeclaredClasses()) {
            check.isTrue(inner + " is static and not public", Modifier.isStatic(inner.getModifiers())
                    && !Modifier.isPublic(inner.getModifiers()) && !Modifier.isProtected(inner.getModifiers()));
            check.isTrue(inner + " has few fields", inner.getDeclaredFields().length <= 20);
            for (Method m : inner.getDeclaredMethods()) {
                hidden.add(m.getName());
                check.isTrue(m + " has at most seven parameters", m.getParameterCount() <= 7);
            }
        }
        for (String shape : FACE) {
            String name = shape.substring(shape.indexOf(' ') + 1, shape.indexOf('('));
            check.isTrue("no method inside is called " + name, !hidden.contains(name));
        }
        check.isTrue("few classes", c.getDeclaredClasses().length < 12);
        checkFields(check, c);
    }

    private static void checkFields(Check check, Class<?> c) throws ReflectiveOperationException {
        for (Field f : c.getDeclaredFields()) {
            boolean isNone = f.getName().equals("NONE");
            check.due(f.getName() + " is public", Modifier.isPublic(f.getModifiers()), isNone);
            check.due(f.getName() + " is private", Modifier.isPrivate(f.getModifiers()), !isNone);
            boolean shared = Modifier.isStatic(f.getModifiers());
            check.isTrue(f.getName() + ": what is static is final", !shared || Modifier.isFinal(f.getModifiers()));
        }
        Field none = c.getField("NONE");
        check.isTrue("NONE is an int constant", none.getType() == int.class
                && Modifier.isStatic(none.getModifiers()) && Modifier.isFinal(none.getModifiers()));
        check.due("NONE", none.getInt(null), -1);
    }

    private static void checkText(Check check, String text) {
        String code = text.replaceAll("(?s)/\\*.*?\\*/", "").replaceAll("//[^\n]*", "");
        for (String word : FORBIDDEN) {
            String pattern = Character.isLetter(word.charAt(0)) ? "\\b" + word + "\\b" : word;
            check.isTrue("no '" + word + "' in the code", !Pattern.compile(pattern).matcher(code).find());
        }
        Matcher imports = Pattern.compile("\\bimport ([^;]*);").matcher(code);
        while (imports.find()) {
            check.isTrue("import of " + imports.group(1), imports.group(1).equals("java.util.Arrays"));
        }
        Matcher makes = Pattern.compile("\n *(.*\\bnew\\b.*)").matcher(code);
        while (makes.find()) {
            String line = makes.group(1);
            boolean once = line.startsWith("private ") || line.equals("ways = new int[SETS * MOST_PLAYERS];");
            check.isTrue("made with its object, or when first asked for: " + line, once);
        }
        Matcher takes = Pattern.compile("\\b([A-Z]\\w*\\.\\w+)").matcher(code.replaceAll("\\bimport [^;]*;", ""));
        while (takes.find()) {
            check.isTrue("taken of the library: " + takes.group(1), LIBRARY.contains(takes.group(1)));
        }
        for (char c : text.toCharArray()) {
            check.isTrue("signs are 1 to 127", c < 128);
        }
    }

    /** A method ends with the first brace that stands as far to the right as its own line. */
    private static void checkLengths(Check check, String text) {
        String[] lines = text.split("\n");
        int found = 0;
        for (int i = 0; i < lines.length; i++) {
            boolean begins = lines[i].matches(" {4}( {4})?(public |private )?(static )?\\w+(\\[\\])?( \\w+)?\\(.*\\) \\{");
            if (begins) {
                String end = lines[i].replaceAll("\\S.*", "") + "}";
                int last = i;
                while (last < lines.length - 1 && !lines[last].equals(end)) {
                    last++;
                }
                found++;
                check.isTrue("short: " + lines[i].trim(), last - i + 1 <= MOST_LINES);
            }
        }
        check.isTrue("methods were found: " + found, found > FACE.length);
    }

    public static void main(String[] args) throws IOException, ReflectiveOperationException {
        Check check = new Check();
        checkMembers(check);
        String file = args.length > 0 ? args[0] : "src/main/java/MeetingRanks.java";
        String text = Files.readString(Path.of(file), StandardCharsets.UTF_8);
        checkText(check, text);
        checkLengths(check, text);
        checkDocument(check, Path.of(args.length > 1 ? args[1] : "../shared/DOC.md"));
        check.end();
    }
}
