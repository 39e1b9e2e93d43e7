import java.nio.charset.StandardCharsets;

/** A DarkCommittee as tests use it: TEXTS are Strings here, and wrong answers are counted. */
final class Copse {
    private static int wrong = 0;
    private static int right = 0;

    private Copse() {
    }

    static void due(String what, long got, long want) {
        if (got == want) {
            right++;
        } else {
            wrong++;
            System.out.println(what + " answered " + got + ", due is " + want);
        }
    }

    static void finish() {
        System.out.println(right + " answers are as due, " + wrong + " are not");
        if (wrong > 0) {
            System.exit(1);
        }
    }

    /** Puts the bytes behind the TAPE. */
    static void feed(DarkCommittee x, int... bytes) {
        int ahead = x.count(7);
        for (int from = 0; from < bytes.length; from += 20) {
            int[] four = new int[5];
            for (int i = 0; i < 20; i++) {
                four[i / 4] = four[i / 4] << 8 | (from + i < bytes.length ? bytes[from + i] & 255 : 32);
            }
            x.feed(four[0], four[1], four[2], four[3], four[4]);
        }
        x.end(ahead + bytes.length);
    }

    static void feed(DarkCommittee x, String text) {
        byte[] bytes = text.getBytes(StandardCharsets.ISO_8859_1);
        int[] numbers = new int[bytes.length];
        for (int i = 0; i < bytes.length; i++) {
            numbers[i] = bytes[i];
        }
        feed(x, numbers);
    }

    static int law(DarkCommittee x, String text) {
        feed(x, text);
        return x.law();
    }

    static int orders(DarkCommittee x, String text) {
        feed(x, text);
        return x.orders();
    }

    /** A new LAW in FORCE. */
    static void inForce(DarkCommittee x, String text) {
        x.force(law(x, text));
    }
}
