import java.lang.reflect.Constructor;
import java.lang.reflect.Field;
import java.lang.reflect.Method;
import java.lang.reflect.Modifier;
import java.nio.charset.StandardCharsets;
import java.nio.file.Files;
import java.nio.file.Path;
import java.util.ArrayList;
import java.util.HashSet;
import java.util.List;
import java.util.Set;
import java.util.TreeSet;
import java.util.regex.Matcher;
import java.util.regex.Pattern;

/** The class has the document's face and no other, and its file keeps to what LANGUAGE.md rules out. */
public final class Face {
    private static final int MOST_LINES = 60, MOST_PARAMETERS = 7, MOST_CLASSES = 12, MOST_FIELDS = 20;

    private static int wrong;

    private static void tell(String what) {
        wrong++;
        System.out.println(what);
    }

    public static void main(String[] args) throws Exception {
        String document = Files.readString(Path.of("../shared/DOC.md"), StandardCharsets.UTF_8);
        String source = Files.readString(Path.of("src/main/java/WheelSkips.java"), StandardCharsets.UTF_8);
        face(document);
        words(source);
        shapes(source);
        nested();
        System.out.println(wrong == 0 ? "the face is the document's" : wrong + " faults of the face");
        if (wrong != 0) System.exit(1);
    }

    private static void face(String document) throws Exception {
        Matcher block = Pattern.compile("## The public face\\s+```java(.*?)```", Pattern.DOTALL).matcher(document);
        if (!block.find()) {
            tell("the document has no face");
            return;
        }
        Set<String> wanted = new TreeSet<>();
        Matcher method = Pattern.compile("public (int|long) (\\w+)\\(([^)]*)\\);").matcher(block.group(1));
        while (method.find()) {
            String types = method.group(3).replaceAll("(int|long) \\w+", "$1").replace(" ", "");
            wanted.add(method.group(1) + " " + method.group(2) + "|" + types + "|");
        }
        Set<String> had = new TreeSet<>();
        for (Method m : WheelSkips.class.getDeclaredMethods()) {
            if (Modifier.isPrivate(m.getModifiers()) || m.isSynthetic()) continue;
            if (!Modifier.isPublic(m.getModifiers()) || Modifier.isStatic(m.getModifiers())) tell("not of the face: " + m);
            List<String> types = new ArrayList<>();
            for (Class<?> type : m.getParameterTypes()) types.add(type.getName());
            had.add(m.getReturnType().getName() + " " + m.getName() + "|" + String.join(",", types) + "|");
        }
        if (wanted.size() != 40) tell("40 methods are wanted, read were " + wanted.size());
        if (!wanted.equals(had)) tell("wanted: " + wanted + "\nhad: " + had);
        Set<String> constants = new TreeSet<>();
        for (Field f : WheelSkips.class.getDeclaredFields()) {
            if (Modifier.isPrivate(f.getModifiers()) || f.isSynthetic()) continue;
            constants.add(f.getName() + " = " + f.get(null));
        }
        String due = "[BAD = -1, FULL = -3, NOT = -2, STATE = -5, VOID = -2000000000]";
        if (!constants.toString().equals(due)) tell("constants: " + constants);
        Constructor<?>[] makers = WheelSkips.class.getDeclaredConstructors();
        if (makers.length != 1 || makers[0].getParameterCount() != 0 || !Modifier.isPublic(makers[0].getModifiers())) {
            tell("constructors: " + List.of(makers));
        }
        if (!Modifier.isFinal(WheelSkips.class.getModifiers())) tell("the class is not final");
    }

    /** The source without comments and with its characters and texts emptied. */
    private static String bare(String source) {
        return source.replaceAll("(?s)/\\*.*?\\*/", "").replaceAll("//[^\n]*", "")
            .replaceAll("'(\\\\.|[^'\\\\])'", "'c'").replaceAll("\"(\\\\.|[^\"\\\\])*\"", "\"\"");
    }

    private static void words(String source) {
        for (int i = 0; i < source.length(); i++) {
            if (source.charAt(i) > 126) tell("a sign above 126 at " + i);
        }
        String code = bare(source);
        String[] ruledOut = {"\\bthrow\\b", "\\bthrows\\b", "\\btry\\b", "\\bcatch\\b", "\\bfinally\\b", "\\bsynchronized\\b",
            "\\bassert\\b", "->", "::", "\\bpackage\\b", "\\bimport\\b", "\\bvar\\b", "\\bgoto\\b", "Exact\\b", "\\bObject\\b",
            "\\bThread\\b", "\\bSystem\\b(?!\\.arraycopy)", "\\bRandom\\b", "\\brandom\\b", "\\bequals\\b", "\\bhashCode\\b",
            "\\btoString\\b", "\\bwhile\\s*\\(\\s*true", "for\\s*\\(\\s*;", "\\bdouble\\b", "\\bfloat\\b", "\\bnull\\b",
            "static\\s*\\{", "\\bnative\\b", "\\bvolatile\\b", "@"};
        for (String rule : ruledOut) {
            Matcher m = Pattern.compile(rule).matcher(code);
            if (m.find()) tell("ruled out: " + m.group() + " near " + code.substring(m.start(), Math.min(code.length(), m.start() + 40)));
        }
        Matcher made = Pattern.compile("\\bnew (\\w+)").matcher(code);
        int many = 0;
        while (made.find()) many++;
        if (many > 60) tell("many things are made: " + many);
    }

    /** Methods are short, take few parameters, and make nothing but in constructors and fields. */
    private static void shapes(String source) {
        String[] lines = source.split("\n");
        Pattern head = Pattern.compile("^( {4}| {8})(public |private |static |final )*[\\w\\[\\]]+ ?\\w*\\((.*)\\) \\{$");
        for (int i = 0; i < lines.length; i++) {
            Matcher m = head.matcher(lines[i]);
            if (!m.matches() || lines[i].contains(" new ")) continue;
            int end = i;
            while (end < lines.length && !lines[end].equals(m.group(1) + "}")) end++;
            if (end - i + 1 > MOST_LINES) tell("a long method: " + lines[i]);
            if (m.group(3).split(",").length > MOST_PARAMETERS) tell("many parameters: " + lines[i]);
        }
    }

    private static void nested() {
        Set<String> taken = new HashSet<>();
        for (Method m : WheelSkips.class.getDeclaredMethods()) {
            if (Modifier.isPublic(m.getModifiers())) taken.add(m.getName());
        }
        for (Method m : WheelSkips.class.getDeclaredMethods()) {
            if (Modifier.isPrivate(m.getModifiers()) && taken.contains(m.getName())) tell("a private " + m);
        }
        Class<?>[] inside = WheelSkips.class.getDeclaredClasses();
        if (inside.length + 1 > MOST_CLASSES) tell(inside.length + 1 + " classes");
        List<Class<?>> all = new ArrayList<>(List.of(inside));
        all.add(WheelSkips.class);
        for (Class<?> c : all) {
            int fields = 0;
            for (Field f : c.getDeclaredFields()) {
                if (f.isSynthetic()) continue;
                if (!Modifier.isStatic(f.getModifiers())) fields++;
                else if (!Modifier.isFinal(f.getModifiers())) tell("static and not final: " + f);
            }
            if (fields > MOST_FIELDS) tell(c + " has " + fields + " fields");
            if (c == WheelSkips.class) continue;
            if (!Modifier.isStatic(c.getModifiers())) tell("not static: " + c);
            for (Method m : c.getDeclaredMethods()) {
                if (Modifier.isPublic(m.getModifiers())) tell("public inside: " + m);
                if (taken.contains(m.getName())) tell("named as one of the face: " + m);
            }
        }
    }
}
