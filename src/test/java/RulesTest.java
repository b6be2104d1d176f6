import java.io.IOException;
import java.lang.reflect.Constructor;
import java.lang.reflect.Field;
import java.lang.reflect.Method;
import java.lang.reflect.Modifier;
import java.nio.file.Files;
import java.nio.file.Path;
import java.nio.file.Paths;
import java.util.ArrayList;
import java.util.Arrays;
import java.util.HashSet;
import java.util.List;
import java.util.Set;
import java.util.TreeSet;
import java.util.regex.Matcher;
import java.util.regex.Pattern;

/** The rules of LANGUAGE.md that can be seen without reading the program: its face, words it may not have, lengths. */
public final class RulesTest {
    private static final String[] FACE = {"int feed(int,int,int,int,int)", "boolean end(int)", "int house()", "int fault(int)",
        "int has(int)", "int letter(int,int,int)", "int ear(int,int)", "int place(int,int)", "int stride()",
        "int later(int,int)", "int round(int)", "int heard(int)", "int often(int,int)", "int quiet(int,int)",
        "int seats(int,int)", "int watch(int)", "int silence(int)", "int odds(int)", "int mark()", "int miles(int)",
        "int tells(int)", "int nights(int)", "int chance(int)", "boolean hush(int)", "boolean sit(int,int)",
        "boolean please(int,int)", "boolean undo()", "boolean seed(int)", "int kept(int,int)", "int image()",
        "int octet(int)", "boolean on()", "int status(int)"};
    private static final String[] FORBIDDEN = {"throw", "throws", "try", "catch", "finally", "synchronized", "assert", "native",
        "volatile", "transient", "protected", "instanceof", "System\\.(?!arraycopy)", "Exact", "->", "::", "\\bvar\\b",
        "@", "Random", "Thread", "static \\{", "equals\\(", "hashCode", "toString"};

    private RulesTest() {
    }

    private static void face() {
        Set<String> got = new TreeSet<>();
        Set<String> names = new HashSet<>();
        for (Method m : DistantVoice.class.getDeclaredMethods()) {
            if (Modifier.isPublic(m.getModifiers())) {
                StringBuilder b = new StringBuilder(m.getReturnType() + " " + m.getName() + "(");
                for (int i = 0; i < m.getParameterCount(); i++) {
                    b.append(i == 0 ? "" : ",").append(m.getParameterTypes()[i]);
                }
                got.add(b.append(")").toString());
                names.add(m.getName());
            }
        }
        Check.due("the face: " + got, got.equals(new TreeSet<>(Arrays.asList(FACE))), true);
        for (Method m : DistantVoice.class.getDeclaredMethods()) {
            int mods = m.getModifiers();
            boolean shown = Modifier.isPublic(mods) || Modifier.isPrivate(mods) || m.isSynthetic();
            Check.due("public or private: " + m, shown, true);
            Check.due("a name of its own: " + m, Modifier.isPrivate(mods) && names.contains(m.getName()), false);
        }
        for (Field f : DistantVoice.class.getDeclaredFields()) {
            boolean none = f.getName().equals("NONE") && Modifier.isPublic(f.getModifiers());
            Check.due("private: " + f, none || Modifier.isPrivate(f.getModifiers()), true);
        }
        for (Constructor<?> c : DistantVoice.class.getDeclaredConstructors()) {
            Check.due("the constructor", Modifier.isPublic(c.getModifiers()) && c.getParameterCount() == 0, true);
        }
        Check.due("final", Modifier.isFinal(DistantVoice.class.getModifiers()), true);
        Check.due("NONE", DistantVoice.NONE, -1);
    }

    private static void classes() {
        List<Class<?>> all = new ArrayList<>(Arrays.asList(DistantVoice.class.getDeclaredClasses()));
        Check.due("some twelve classes", all.size() < 13, true);
        all.add(DistantVoice.class);
        for (Class<?> c : all) {
            int fields = 0;
            for (Field f : c.getDeclaredFields()) {
                boolean fixed = Modifier.isStatic(f.getModifiers());
                Check.due("final if static: " + f, !fixed || Modifier.isFinal(f.getModifiers()), true);
                fields += fixed ? 0 : 1;
            }
            Check.due("some twenty fields: " + c, fields <= 20, true);
            Check.due("static: " + c, c == DistantVoice.class || Modifier.isStatic(c.getModifiers()), true);
            for (Method m : c.getDeclaredMethods()) {
                Check.due("at most seven parameters: " + m, m.getParameterCount() <= 7, true);
            }
        }
    }

    private static void text() throws IOException {
        Path path = Paths.get("src/main/java/DistantVoice.java");
        String source = new String(Files.readAllBytes(path), "US-ASCII");
        String code = source.replaceAll("(?s)/\\*.*?\\*/", "").replaceAll("//[^\n]*", "");
        for (String word : FORBIDDEN) {
            Pattern p = Pattern.compile(Character.isLetter(word.charAt(0)) && !word.contains("\\") ? "\\b" + word + "\\b" : word);
            Matcher m = p.matcher(code);
            Check.due("without " + word, m.find(), false);
        }
        Matcher imports = Pattern.compile("import ([^;]*);").matcher(code);
        while (imports.find()) {
            Check.due("import " + imports.group(1), imports.group(1).equals("java.util.Arrays"), true);
        }
        Check.due("no package", code.contains("package "), false);
        int depth = 0;
        int began = 0;
        String[] lines = source.split("\n");
        for (int i = 0; i < lines.length; i++) {
            String line = lines[i];
            if (line.matches("( {4}| {8})(public|private|static|void|int|boolean|int\\[\\]|House|[A-Z]\\w*\\().*\\) \\{")) {
                began = i;
                depth = line.indexOf(line.trim());
            }
            if (line.equals(" ".repeat(depth) + "}") && began > 0) {
                Check.due("short: " + lines[began], i - began < 60, true);
                began = 0;
            }
        }
    }

    /** Each promise and each part of the terms has boundary tests of its own, found by their names. */
    private static void boundaryTests() throws IOException {
        StringBuilder all = new StringBuilder();
        for (String name : new String[] {"Text", "Night", "Ahead", "Marks"}) {
            all.append(new String(Files.readAllBytes(Paths.get("src/test/java/Edges" + name + "Test.java")), "US-ASCII"));
        }
        for (int promise = 1; promise <= 34; promise++) {
            String start = String.format(" static void promise%02d_", promise);
            Check.due("a boundary test:" + start, all.indexOf(start) >= 0, true);
        }
        for (int term = 1; term <= 3; term++) {
            Check.due("a boundary test of term " + term, all.indexOf(" static void term" + term + "_") >= 0, true);
        }
    }

    public static void main(String[] args) throws IOException {
        face();
        classes();
        text();
        boundaryTests();
        Check.finish();
    }
}
