import java.io.IOException;
import java.lang.reflect.Constructor;
import java.lang.reflect.Field;
import java.lang.reflect.Method;
import java.lang.reflect.Modifier;
import java.nio.charset.StandardCharsets;
import java.nio.file.Files;
import java.nio.file.Path;
import java.util.Arrays;
import java.util.Set;
import java.util.TreeSet;
import java.util.regex.Matcher;
import java.util.regex.Pattern;

/** The class's face is the document's, and its file keeps to what of LANGUAGE.md a look at it can tell. */
public final class FaceTest {
    private static final String[] FACE = {
        "int player()", "int meet(int, int, int, int)", "int feed(int, int, int, int, int)", "int sheet(int)",
        "boolean drop(int)", "int next(int, int)", "boolean rule(int, int, int)", "int tie(int)", "int ties()",
        "int meeting(int, int)", "int over(int, int)", "int score(int)", "int number(int, int)", "int table(int)",
        "boolean tied(int)", "int heaps()", "int heap(int)", "long gap(int, int)", "int cost(long)", "int best()",
        "int rows()", "long first()", "int bound()", "int core()", "int champion()", "int walks()", "int may(int)",
        "int why(int)", "int undo(int)", "int about(int)"};

    private static final String[] FORBIDDEN = {"throw", "throws", "try", "catch", "synchronized", "assert", "volatile",
        "->", "::", "\\w+Exact", "@Override", "equals", "hashCode", "package", "Object", "protected", "Random",
        "nanoTime", "currentTimeMillis", "double", "float"};

    private static String shape(Method m) {
        StringBuilder text = new StringBuilder(m.getReturnType().getName()).append(' ').append(m.getName()).append('(');
        for (int i = 0; i < m.getParameterCount(); i++) {
            text.append(i == 0 ? "" : ", ").append(m.getParameterTypes()[i].getName());
        }
        return text.append(')').toString();
    }

    private static void checkMembers(Check check) throws ReflectiveOperationException {
        Class<?> c = MeetingRanks.class;
        check.due("public and final", c.getModifiers(), Modifier.PUBLIC | Modifier.FINAL);
        check.due("constructors", c.getDeclaredConstructors().length, 1);
        Constructor<?> made = c.getDeclaredConstructors()[0];
        check.isTrue("the constructor is public and bare",
                Modifier.isPublic(made.getModifiers()) && made.getParameterCount() == 0);
        Set<String> open = new TreeSet<>();
        Set<String> hidden = new TreeSet<>();
        for (Method m : c.getDeclaredMethods()) {
            if (Modifier.isPrivate(m.getModifiers())) {
                hidden.add(m.getName());
            } else {
                open.add(shape(m));
                check.isTrue(m.getName() + " is public and no more", m.getModifiers() == Modifier.PUBLIC);
            }
        }
        check.isTrue("the methods are the document's: " + open, open.equals(new TreeSet<>(Arrays.asList(FACE))));
        for (Class<?> inner : c.getDeclaredClasses()) {
            check.isTrue(inner + " is static and not public", Modifier.isStatic(inner.getModifiers())
                    && !Modifier.isPublic(inner.getModifiers()) && !Modifier.isProtected(inner.getModifiers()));
            check.isTrue(inner + " has few fields", inner.getDeclaredFields().length <= 20);
            for (Method m : inner.getDeclaredMethods()) {
                hidden.add(m.getName());
                check.isTrue(m + " has at most seven parameters", m.getParameterCount() <= 7);
            }
        }
        for (String shape : FACE) {
            String name = shape.substring(shape.indexOf(' ') + 1, shape.indexOf('('));
            check.isTrue("no method inside is called " + name, !hidden.contains(name));
        }
        check.isTrue("few classes", c.getDeclaredClasses().length < 12);
        checkFields(check, c);
    }

    private static void checkFields(Check check, Class<?> c) throws ReflectiveOperationException {
        for (Field f : c.getDeclaredFields()) {
            boolean isNone = f.getName().equals("NONE");
            check.due(f.getName() + " is public", Modifier.isPublic(f.getModifiers()), isNone);
            check.due(f.getName() + " is private", Modifier.isPrivate(f.getModifiers()), !isNone);
            boolean shared = Modifier.isStatic(f.getModifiers());
            check.isTrue(f.getName() + ": what is static is final", !shared || Modifier.isFinal(f.getModifiers()));
        }
        Field none = c.getField("NONE");
        check.isTrue("NONE is an int constant", none.getType() == int.class
                && Modifier.isStatic(none.getModifiers()) && Modifier.isFinal(none.getModifiers()));
        check.due("NONE", none.getInt(null), -1);
    }

    private static void checkText(Check check, String text) {
        String code = text.replaceAll("(?s)/\\*.*?\\*/", "").replaceAll("//[^\n]*", "");
        for (String word : FORBIDDEN) {
            String pattern = Character.isLetter(word.charAt(0)) ? "\\b" + word + "\\b" : word;
            check.isTrue("no '" + word + "' in the code", !Pattern.compile(pattern).matcher(code).find());
        }
        Matcher imports = Pattern.compile("\\bimport ([^;]*);").matcher(code);
        while (imports.find()) {
            check.isTrue("import of " + imports.group(1), imports.group(1).equals("java.util.Arrays"));
        }
        Matcher makes = Pattern.compile("\n( *)(.*\\bnew\\b.*)").matcher(code);
        while (makes.find()) {
            check.isTrue("made once, with its object: " + makes.group(2), makes.group(2).startsWith("private final "));
        }
        for (char c : text.toCharArray()) {
            check.isTrue("signs are 1 to 127", c < 128);
        }
    }

    public static void main(String[] args) throws IOException, ReflectiveOperationException {
        Check check = new Check();
        checkMembers(check);
        String file = args.length > 0 ? args[0] : "src/main/java/MeetingRanks.java";
        checkText(check, Files.readString(Path.of(file), StandardCharsets.UTF_8));
        check.end();
    }
}
