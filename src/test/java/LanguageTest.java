import java.io.IOException;
import java.lang.reflect.Constructor;
import java.lang.reflect.Field;
import java.lang.reflect.Member;
import java.lang.reflect.Method;
import java.lang.reflect.Modifier;
import java.nio.file.Files;
import java.nio.file.Path;
import java.util.Set;
import java.util.TreeSet;
import java.util.regex.Matcher;
import java.util.regex.Pattern;

/** The rules of LANGUAGE.md that can be seen in the source or in the face of the class. */
public final class LanguageTest {
    private static final String FACE = "public static final int NONE = -1; public DarkCommittee(); "
            + "int bird(int tree, int range); int favour(int bird, int matter, int n); int of(int bird, int what); "
            + "int matter(int clauses, int rich); int at(int matter, int what); int terms(int what, int value); "
            + "int feed(int a, int b, int c, int d, int e); int end(int n); int row(); int cats(); int law(); "
            + "int orders(); int fault(); int stopped(); int force(int law); int move(int matter, int bird); "
            + "int divide(int matter); int fly(int bird, int tree); int pass(); int undo(); "
            + "int second(int matter, int bird); int richest(int i); int byClock(int c); "
            + "int spoilt(int matter, int what); int come(int matter, int what); int chain(int from, int to, int i); "
            + "int ears(int what); int loudest(int what); int nearest(int bird, int matter); int heard(int ayes); "
            + "int forget(); int canBe(); int listen(int what); long few(int k, int n); "
            + "int compare(int law, int matter); int mays(int seed, int n); int drawn(int k, int what); "
            + "int image(int k); int back(int k); int count(int what); int status();";

    private static int wrong = 0;

    private static void rule(int number, boolean kept, String what) {
        if (!kept) {
            wrong++;
            System.out.println("rule " + number + ": " + what);
        }
    }

    public static void main(String[] args) throws IOException {
        String source = Files.readString(Path.of("src/main/java/DarkCommittee.java"));
        String code = source.replaceAll("(?s)/\\*.*?\\*/", "").replaceAll("//[^\n]*", "");
        face();
        nestedClasses();
        words(code);
        methodLengths(code);
        System.out.println(wrong == 0 ? "the rules are kept" : wrong + " breaches of the rules");
        if (wrong > 0) {
            System.exit(1);
        }
    }

    private static void face() {
        Set<String> due = new TreeSet<>();
        Matcher m = Pattern.compile("(int|long) (\\w+)\\(([^)]*)\\);").matcher(FACE);
        while (m.find()) {
            int parameters = m.group(3).isEmpty() ? 0 : m.group(3).split(",").length;
            due.add(m.group(1) + " " + m.group(2) + " " + parameters);
        }
        Set<String> names = new TreeSet<>();
        Set<String> got = new TreeSet<>();
        for (Method method : DarkCommittee.class.getDeclaredMethods()) {
            if (Modifier.isPublic(method.getModifiers())) {
                got.add(method.getReturnType() + " " + method.getName() + " " + method.getParameterCount());
                names.add(method.getName());
            }
        }
        rule(1, got.equals(due), "the face is " + got);
        for (Method method : DarkCommittee.class.getDeclaredMethods()) {
            rule(1, Modifier.isPublic(method.getModifiers()) || !names.contains(method.getName()),
                    "a private method is named " + method.getName());
            beside(method);
        }
        for (Field field : DarkCommittee.class.getDeclaredFields()) {
            rule(1, field.getName().equals("NONE") || Modifier.isPrivate(field.getModifiers()), field.getName());
        }
        for (Constructor<?> constructor : DarkCommittee.class.getDeclaredConstructors()) {
            rule(1, constructor.getParameterCount() == 0, "another constructor");
        }
    }

    private static void beside(Member member) {
        rule(1, Modifier.isPublic(member.getModifiers()) || Modifier.isPrivate(member.getModifiers()),
                member.getName() + " is neither public nor private");
    }

    private static void nestedClasses() {
        Class<?>[] inside = DarkCommittee.class.getDeclaredClasses();
        rule(11, inside.length + 1 <= 12, "too many classes");
        for (Class<?> c : inside) {
            rule(2, Modifier.isStatic(c.getModifiers()), c + " is not static");
            rule(1, !Modifier.isPublic(c.getModifiers()) && !Modifier.isProtected(c.getModifiers()), c + " is seen");
            fields(c);
        }
        fields(DarkCommittee.class);
    }

    private static void fields(Class<?> c) {
        int own = 0;
        for (Field field : c.getDeclaredFields()) {
            own += Modifier.isStatic(field.getModifiers()) ? 0 : 1;
            rule(5, !Modifier.isStatic(field.getModifiers()) || Modifier.isFinal(field.getModifiers()),
                    field + " is static and not final");
        }
        rule(11, own <= 20, c + " has " + own + " fields");
        for (Method method : c.getDeclaredMethods()) {
            rule(11, method.getParameterCount() <= 7, method + " has too many parameters");
            rule(6, !method.isSynthetic(), method + " is synthetic");
        }
    }

    private static void words(String code) {
        String texts = code.replaceAll("\"[^\"\n]*\"", "\"\"").replaceAll("'[^'\n]*'", "' '");
        String[] none = {"import", "package", "throw", "throws", "try", "catch", "finally", "synchronized", "assert",
            "var", "equals", "hashCode", "toString", "Object", "System.out", "Thread", "Random", "currentTimeMillis",
            "nanoTime", "record", "sealed", "yield", "instanceof", "native", "volatile", "transient", "strictfp",
            "protected", "interface"};
        for (String word : none) {
            rule(6, !Pattern.compile("(?<![\\w.])" + Pattern.quote(word) + "(?!\\w)").matcher(texts).find(),
                    word + " stands in the source");
        }
        rule(2, !texts.contains("->") && !texts.contains("::"), "a lambda or a method reference");
        rule(12, !texts.contains("\"\" +") && !texts.contains("+ \"\""), "texts joined by +");
        rule(6, !texts.contains("Exact("), "a function of Math that throws");
        for (int i = 0; i < code.length(); i++) {
            rule(4, code.charAt(i) < 128, "a sign beyond 127 at " + i);
        }
        Matcher library = Pattern.compile("\\b(System|Math|Integer|Long|Arrays)\\.(\\w+)").matcher(texts);
        Set<String> allowed = Set.of("System.arraycopy", "Math.max", "Math.min", "Math.abs", "Integer.bitCount");
        while (library.find()) {
            rule(4, allowed.contains(library.group()), library.group() + " is called");
        }
    }

    private static void methodLengths(String code) {
        Matcher m = Pattern.compile("(?m)^( {4}| {8})(?!private static final class)[^ /}][^;=\n]*\\) \\{$").matcher(code);
        while (m.find()) {
            int end = code.indexOf("\n" + m.group(1) + "}", m.end());
            int lines = code.substring(m.start(), Math.max(m.start(), end)).split("\n").length + 1;
            rule(11, lines <= 60, m.group().trim() + " has " + lines + " lines");
        }
    }
}
