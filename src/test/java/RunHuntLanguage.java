import java.io.IOException;
import java.lang.reflect.Constructor;
import java.lang.reflect.Field;
import java.lang.reflect.Method;
import java.lang.reflect.Modifier;
import java.nio.charset.StandardCharsets;
import java.nio.file.Files;
import java.nio.file.Paths;
import java.util.ArrayList;
import java.util.Arrays;
import java.util.List;
import java.util.TreeSet;
import java.util.regex.Matcher;
import java.util.regex.Pattern;

/** The face of the document, and of ../shared/LANGUAGE.md what a text and the compiled classes show. */
public final class RunHuntLanguage {
    static final String[] FACE = {
        "int riddle(int,int,int)", "int band(int,int,int)", "boolean weather(int,int)", "int feed(int,int,int,int,int)", "int law(int)",
        "int chance(int,int,int,int)", "int walk(int,int)", "long ways(int,int,int)", "long ahead(int,int,int)", "long share(int,int,int)",
        "long after(int,int,int,int)", "int edge(int,int)", "long best(int,int,int,int,int,int,int)", "long without(int,int,int)",
        "int waits(int,int,int,int,int)", "int order()", "int given(int,int)", "long cleverest(int,int,int)", "int went(int,int,int)",
        "int logged(int,int)", "int knew(int,int,int)", "boolean seed(int)", "int draw()", "int had(int)", "int clear()", "int check(int)",
        "int count(int)"};
    static final String[] BANNED = {"\\bthrow\\b", "\\btry\\b", "\\bcatch\\b", "\\bsynchronized\\b", "\\bassert\\b", "->", "::", "\\bimport\\b",
        "\\bpackage\\b", "\\bMath\\.\\w+Exact\\b", "\\bSystem\\.(?!arraycopy)", "\\bThread\\b", "\\bObject\\b", "\\bvar\\b", "\\bdouble\\b", "\\bfloat\\b",
        "\\binstanceof\\b", "\\bprotected\\b", "\\bvolatile\\b", "\\bnative\\b", "@", "\\.\\.\\.", "\\bfor \\(;;\\)", "while \\(true\\)"};

    static int wrong = 0;

    static void told(String text) {
        wrong++;
        System.out.println(text);
    }

    public static void main(String[] args) throws IOException {
        face();
        List<Class<?>> all = new ArrayList<>();
        all.add(RunHunt.class);
        all.addAll(Arrays.asList(RunHunt.class.getDeclaredClasses()));
        if (all.size() > 12) {
            told(all.size() + " classes");
        }
        for (Class<?> c : all) {
            looksAt(c);
        }
        source();
        System.out.println(wrong == 0 ? "the program keeps to the language" : wrong + " things are not so");
        System.exit(wrong == 0 ? 0 : 1);
    }

    static String signature(Method m) {
        StringBuilder text = new StringBuilder(m.getReturnType().getName() + " " + m.getName() + "(");
        for (Class<?> p : m.getParameterTypes()) {
            text.append(text.charAt(text.length() - 1) == '(' ? "" : ",").append(p.getName());
        }
        return text.append(")").toString();
    }

    static void face() {
        TreeSet<String> due = new TreeSet<>(Arrays.asList(FACE)), got = new TreeSet<>();
        for (Method m : RunHunt.class.getDeclaredMethods()) {
            if (Modifier.isPublic(m.getModifiers()) && !Modifier.isStatic(m.getModifiers())) {
                got.add(signature(m));
            } else if (!Modifier.isPrivate(m.getModifiers())) {
                told("not private: " + m);
            }
        }
        if (!due.equals(got)) {
            told("the face is " + got);
        }
        for (Field f : RunHunt.class.getDeclaredFields()) {
            boolean none = f.getName().equals("NONE") && Modifier.isPublic(f.getModifiers()) && f.getType() == int.class;
            if (!none && !Modifier.isPrivate(f.getModifiers())) {
                told("not private: " + f);
            }
        }
        Constructor<?>[] made = RunHunt.class.getDeclaredConstructors();
        if (made.length != 1 || made[0].getParameterCount() != 0 || !Modifier.isPublic(made[0].getModifiers())) {
            told("constructors: " + Arrays.toString(made));
        }
        if (!Modifier.isFinal(RunHunt.class.getModifiers()) || !Modifier.isPublic(RunHunt.class.getModifiers())) {
            told("RunHunt is not public and final");
        }
    }

    static void looksAt(Class<?> c) {
        if (c != RunHunt.class && (!Modifier.isStatic(c.getModifiers()) || Modifier.isPublic(c.getModifiers()) || Modifier.isProtected(c.getModifiers()))) {
            told(c + " is not a static class inside");
        }
        int fields = 0;
        for (Field f : c.getDeclaredFields()) {
            boolean fixed = Modifier.isStatic(f.getModifiers());
            fields += fixed ? 0 : 1;
            if (fixed && !Modifier.isFinal(f.getModifiers())) {
                told("not final: " + f);
            }
        }
        if (fields > 20) {
            told(c + " has " + fields + " fields");
        }
        TreeSet<String> names = new TreeSet<>();
        for (String s : FACE) {
            names.add(s.substring(s.indexOf(' ') + 1, s.indexOf('(')));
        }
        for (Method m : c.getDeclaredMethods()) {
            if (m.getParameterCount() > 7) {
                told("more than seven parameters: " + m);
            }
            if (names.contains(m.getName()) && !(c == RunHunt.class && Modifier.isPublic(m.getModifiers()))) {
                told("bears the name of a public one: " + m);
            }
            if (Arrays.asList("equals", "hashCode", "toString").contains(m.getName())) {
                told("not to be: " + m);
            }
        }
    }

    static void source() throws IOException {
        String text = new String(Files.readAllBytes(Paths.get("src/main/java/RunHunt.java")), StandardCharsets.ISO_8859_1);
        for (int i = 0; i < text.length(); i++) {
            if (text.charAt(i) > 126) {
                told("a sign above 126 at " + i);
                break;
            }
        }
        String bare = text.replaceAll("(?s)/\\*.*?\\*/", "").replaceAll("//[^\n]*", "").replaceAll("'[^']'", "0");
        for (String banned : BANNED) {
            Matcher m = Pattern.compile(banned).matcher(bare);
            if (m.find()) {
                told("banned: " + m.group());
            }
        }
        String[] lines = text.split("\n");
        int from = -1;
        for (int i = 0; i < lines.length; i++) {
            if (lines[i].matches(" {4}( {4})?[A-Za-z].*\\) \\{") && !lines[i].contains("class ")) {
                from = i;
            } else if (lines[i].matches(" {4}( {4})?\\}") && from >= 0) {
                if (i - from > 60) {
                    told("a long method at line " + (from + 1));
                }
                from = -1;
            }
        }
    }
}
