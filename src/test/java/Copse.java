import java.io.IOException;
import java.lang.reflect.InvocationTargetException;
import java.lang.reflect.Method;
import java.lang.reflect.Modifier;
import java.nio.charset.StandardCharsets;
import java.nio.file.Files;
import java.nio.file.Path;
import java.util.Arrays;
import java.util.Comparator;

/** What tests share: a DarkCommittee as they use it, TEXTS as Strings, and a count of wrong answers. */
abstract class Copse {
    private static final Path DOCUMENT = Path.of("../shared/DOC.md");

    private static int wrong = 0;
    private static int right = 0;
    private static int sentences = 0;
    private static String document = null;
    private static String sentence = "";

    Copse() {
    }

    static void due(String what, long got, long want) {
        if (got == want) {
            right++;
        } else {
            wrong++;
            System.out.println(sentence + what + " answered " + got + ", due is " + want);
        }
    }

    /** A call that is REFUSED answers by what, and status() tells it, too. */
    static void refused(String what, DarkCommittee x, long got, int by) {
        due(what, got, by);
        due(what + ": status", x.status(), by);
    }

    /**
     * The answers that follow hang on this sentence. It has to stand in the document word by word, so that a document
     * that comes anew tells which tests to read again.
     */
    static void says(String quote) {
        sentences++;
        sentence = "\"" + quote + "\": ";
        if (!theDocument().isEmpty() && !theDocument().contains(quote)) {
            wrong++;
            System.out.println(sentence + "the document does not say so");
        }
    }

    private static String theDocument() {
        if (document == null) {
            try {
                document = Files.isReadable(DOCUMENT) ? Files.readString(DOCUMENT) : "";
            } catch (IOException e) {
                document = "";
            }
        }
        return document;
    }

    /** Runs each test of a class: its static methods that take nothing and answer nothing. */
    static void runAll(Class<?> tests) throws IllegalAccessException {
        Method[] methods = tests.getDeclaredMethods();
        Arrays.sort(methods, Comparator.comparing(Method::getName));
        for (Method method : methods) {
            boolean test = Modifier.isStatic(method.getModifiers()) && method.getParameterCount() == 0
                    && method.getReturnType() == void.class && !method.isSynthetic();
            if (test) {
                run(method);
            }
        }
        System.out.println(sentences + " sentences");
        finish();
    }

    private static void run(Method test) throws IllegalAccessException {
        int sentencesAhead = sentences;
        int answersAhead = right + wrong;
        test.setAccessible(true);
        try {
            test.invoke(null);
        } catch (InvocationTargetException e) {
            wrong++;
            System.out.println(sentence + test.getName() + " threw " + e.getCause());
        }
        if (sentences == sentencesAhead || right + wrong == answersAhead) {
            wrong++;
            System.out.println(test.getName() + " names no sentence, or asks nothing");
        }
    }

    static void finish() {
        System.out.println(right + " answers are as due, " + wrong + " are not");
        if (wrong > 0) {
            System.exit(1);
        }
    }

    /** Puts the bytes behind the TAPE. */
    static void feed(DarkCommittee x, int... bytes) {
        int ahead = x.count(7);
        for (int from = 0; from < bytes.length; from += 20) {
            int[] four = new int[5];
            for (int i = 0; i < 20; i++) {
                four[i / 4] = four[i / 4] << 8 | (from + i < bytes.length ? bytes[from + i] & 255 : 32);
            }
            x.feed(four[0], four[1], four[2], four[3], four[4]);
        }
        x.end(ahead + bytes.length);
    }

    static void feed(DarkCommittee x, String text) {
        byte[] bytes = text.getBytes(StandardCharsets.ISO_8859_1);
        int[] numbers = new int[bytes.length];
        for (int i = 0; i < bytes.length; i++) {
            numbers[i] = bytes[i];
        }
        feed(x, numbers);
    }

    static int law(DarkCommittee x, String text) {
        feed(x, text);
        return x.law();
    }

    static int orders(DarkCommittee x, String text) {
        feed(x, text);
        return x.orders();
    }

    static DarkCommittee fresh() {
        return new DarkCommittee();
    }

    /** BIRDS, each told by its TREE, its RANGE and its FAVOUR for MATTERS from 0 on. */
    static DarkCommittee birds(int[]... birds) {
        DarkCommittee x = new DarkCommittee();
        for (int b = 0; b < birds.length; b++) {
            x.bird(birds[b][0], birds[b][1]);
            for (int m = 0; m < birds[b].length - 2; m++) {
                x.favour(b, m, birds[b][m + 2]);
            }
        }
        return x;
    }

    /** So many BIRDS in TREE 4, all of whom hear each other and are for each of so many MATTERS. */
    static DarkCommittee willing(int birds, int matters, int clauses, int rich) {
        DarkCommittee x = new DarkCommittee();
        for (int b = 0; b < birds; b++) {
            x.bird(4, 9);
            for (int m = 0; m < matters; m++) {
                x.favour(b, m, 9);
            }
        }
        for (int m = 0; m < matters; m++) {
            x.matter(clauses, rich);
        }
        return x;
    }

    static String again(String s, int n) {
        return s.repeat(n);
    }

    /** A new LAW in FORCE. */
    static void inForce(DarkCommittee x, String text) {
        x.force(law(x, text));
    }
}
