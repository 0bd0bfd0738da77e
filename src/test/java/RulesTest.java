import java.io.IOException;
import java.lang.reflect.Field;
import java.lang.reflect.Method;
import java.lang.reflect.Modifier;
import java.nio.file.Files;
import java.nio.file.Path;
import java.util.Arrays;
import java.util.List;
import java.util.Set;
import java.util.TreeSet;
import java.util.regex.Matcher;
import java.util.regex.Pattern;

/** The face of the document, and the rules of LANGUAGE.md that can be seen in the class and its file. */
public final class RulesTest {
    private static final Path SOURCE = Path.of("src/main/java/ThunderPost.java");
    private static final Path DOCUMENT = Path.of("../shared/DOC.md");
    private static final List<String> RULED_OUT = List.of("\\bthrow\\b", "\\bthrows\\b", "\\btry\\b", "\\bcatch\\b",
        "\\bsynchronized\\b", "\\bassert\\b", "\\bimport\\b", "\\bpackage\\b", "\\bvolatile\\b", "\\bnative\\b", "->",
        "::", "\\bstatic\\s*\\{", "Exact\\b", "\\bwhile\\s*\\(\\s*true\\b", "\\bfor\\s*\\(\\s*;");
    private static final Check CHECK = new Check("RulesTest");

    public static void main(String[] args) throws IOException {
        String whole = Files.readString(SOURCE);
        String document = Files.readString(DOCUMENT);
        face(document.substring(document.indexOf("```java\n"), document.indexOf("## Terms")));
        classes();
        source(whole);
        headings(whole, document);
        CHECK.end();
    }

    private static void yes(String what, boolean holds) {
        CHECK.due(what, holds ? 1 : 0, 1);
    }

    /** The document's own lines of the face tell what there must be, and nothing else may be seen. */
    private static void face(String lines) {
        Class<?> post = ThunderPost.class;
        yes("the class is public and final", Modifier.isPublic(post.getModifiers()) && Modifier.isFinal(post.getModifiers()));
        yes("one constructor, public and bare", post.getDeclaredConstructors().length == 1
            && post.getConstructors().length == 1 && post.getConstructors()[0].getParameterCount() == 0);
        methods(lines);
        constants(lines);
    }

    private static void methods(String lines) {
        Set<String> told = new TreeSet<>();
        Matcher line = Pattern.compile("public (int|long) (\\w+)\\(([^)]*)\\);").matcher(lines);
        while (line.find()) {
            String types = line.group(3).replaceAll("(int|long) \\w+", "$1").replace(" ", "");
            told.add(line.group(1) + " " + line.group(2) + "(" + types + ")");
        }
        CHECK.due("methods that the document tells", told.size(), 30);
        Set<String> found = new TreeSet<>();
        for (Method method : ThunderPost.class.getDeclaredMethods()) {
            int modifiers = method.getModifiers();
            if (Modifier.isPrivate(modifiers)) {
                continue;
            }
            yes(method.getName() + " is public and no class's own", Modifier.isPublic(modifiers) && !Modifier.isStatic(modifiers));
            String types = Arrays.toString(method.getParameterTypes()).replaceAll("[\\[\\] ]", "");
            found.add(method.getReturnType() + " " + method.getName() + "(" + types + ")");
        }
        yes("the methods of the face: " + found, found.equals(told));
    }

    private static void constants(String lines) {
        Set<String> told = new TreeSet<>();
        Matcher line = Pattern.compile("public static final (int|long) ([^;]*);").matcher(lines);
        while (line.find()) {
            for (String constant : line.group(2).split(", ")) {
                told.add(line.group(1) + " " + constant.replace("Long.MIN_VALUE", String.valueOf(Long.MIN_VALUE)));
            }
        }
        CHECK.due("constants that the document tells", told.size(), 6);
        Set<String> found = new TreeSet<>();
        for (Field field : ThunderPost.class.getDeclaredFields()) {
            int modifiers = field.getModifiers();
            if (Modifier.isPrivate(modifiers)) {
                continue;
            }
            boolean constant = Modifier.isPublic(modifiers) && Modifier.isStatic(modifiers) && Modifier.isFinal(modifiers);
            yes(field.getName() + " is a public constant", constant);
            found.add(field.getType() + " " + field.getName() + " = " + (constant ? valueOf(field) : "?"));
        }
        yes("the constants of the face: " + found, found.equals(told));
    }

    private static String valueOf(Field constant) {
        try {
            return String.valueOf(constant.get(null));
        } catch (IllegalAccessException hidden) {
            throw new IllegalStateException(hidden);
        }
    }

    private static void classes() {
        Set<String> faceNames = new TreeSet<>();
        for (Method method : ThunderPost.class.getMethods()) {
            faceNames.add(method.getName());
        }
        Class<?>[] inside = ThunderPost.class.getDeclaredClasses();
        yes("at most twelve classes", inside.length < 12);
        oneClass(ThunderPost.class, faceNames);
        for (Class<?> one : inside) {
            yes(one.getName() + " is static", Modifier.isStatic(one.getModifiers()));
            yes(one.getName() + " is not public", !Modifier.isPublic(one.getModifiers()) && !Modifier.isProtected(one.getModifiers()));
            oneClass(one, faceNames);
        }
    }

    private static void oneClass(Class<?> one, Set<String> faceNames) {
        int fields = 0;
        for (Field field : one.getDeclaredFields()) {
            boolean isStatic = Modifier.isStatic(field.getModifiers());
            yes(field + " is final, if static", !isStatic || Modifier.isFinal(field.getModifiers()));
            fields += isStatic ? 0 : 1;
        }
        yes(one.getName() + " has at most twenty fields", fields <= 20);
        for (Method method : one.getDeclaredMethods()) {
            yes(method + " takes at most seven parameters", method.getParameterCount() <= 7);
            boolean ofFace = one == ThunderPost.class && Modifier.isPublic(method.getModifiers());
            yes(method + " has a name of its own", ofFace || !faceNames.contains(method.getName()));
        }
    }

    /** The document's lines "Ahead of the calls .. the interface says: ----": each call stands behind its heading. */
    private static void headings(String whole, String document) {
        Matcher line = Pattern.compile("(?m)^Ahead of the calls (.*) the interface says: (---- .*)\\.$").matcher(document);
        int lines = 0;
        while (line.find()) {
            lines++;
            int from = whole.indexOf("// " + line.group(2) + "\n");
            int next = whole.indexOf("// ----", from + 1);
            Matcher call = Pattern.compile("`(\\w+)`").matcher(line.group(1));
            while (call.find()) {
                int at = whole.indexOf(" " + call.group(1) + "(", whole.indexOf("public ThunderPost()"));
                yes(call.group(1) + " stands behind " + line.group(2), from >= 0 && at > from && (next < 0 || at < next));
            }
        }
        CHECK.due("headings of the document", lines, 5);
    }

    private static void source(String whole) {
        for (int k = 0; k < whole.length(); k++) {
            if (whole.charAt(k) > 126) {
                yes("the sign at " + k + " is a plain one", false);
            }
        }
        String code = whole.replaceAll("(?s)/\\*.*?\\*/", "").replaceAll("//[^\n]*", "");
        for (String ruledOut : RULED_OUT) {
            yes("no " + ruledOut, !Pattern.compile(ruledOut).matcher(code).find());
        }
        // Rows are made once, with the object: no method but a constructor makes anything.
        Matcher made = Pattern.compile("(?m)^.*\\bnew\\b.*$").matcher(code);
        while (made.find()) {
            String line = made.group().trim();
            yes("made with the object: " + line, line.matches("(private )?(final )?[\\w\\[\\]]+ \\w+ = new .*;")
                || line.equals("sheets[k] = new Sheet();"));
        }
        int start = 0;
        String[] lines = whole.split("\n");
        for (int k = 0; k < lines.length; k++) {
            if (lines[k].matches(" {4}(?: {4})?[a-z].*\\) \\{")) {
                start = k;
            }
            if (lines[k].matches(" {4}(?: {4})?\\}")) {
                yes("the method at line " + (start + 1) + " is short", k - start <= 60);
                start = k;
            }
        }
    }
}
