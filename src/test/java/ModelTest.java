import java.lang.reflect.InvocationTargetException;
import java.lang.reflect.Method;
import java.nio.charset.StandardCharsets;
import java.util.ArrayList;
import java.util.LinkedHashMap;
import java.util.List;
import java.util.Map;
import java.util.Random;

/** Runs of calls by draws on DarkCommittee and on Model: every answer has to be the same. */
public final class ModelTest {
    private static final int RUNS = 3000;
    private static final int CALLS = 512;

    private static final Map<String, Method> OURS = new LinkedHashMap<>();
    private static final Map<String, Method> MODELS = new LinkedHashMap<>();
    private static final Map<String, Integer> OK = new LinkedHashMap<>();
    private static final Map<String, Integer> NOT_OK = new LinkedHashMap<>();

    private final Random random;
    private final DarkCommittee x = new DarkCommittee();
    private final Model model = new Model();
    private final List<String> calls = new ArrayList<>();

    private ModelTest(long seed) {
        random = new Random(seed);
    }

    public static void main(String[] args) throws Exception {
        int runs = args.length > 0 ? Integer.parseInt(args[0]) : RUNS;
        long first = args.length > 1 ? Long.parseLong(args[1]) : 0;
        for (Method m : DarkCommittee.class.getDeclaredMethods()) {
            if (java.lang.reflect.Modifier.isPublic(m.getModifiers())) {
                OURS.put(m.getName(), m);
                MODELS.put(m.getName(), Model.class.getDeclaredMethod(m.getName(), m.getParameterTypes()));
            }
        }
        for (long seed = first; seed < first + runs; seed++) {
            ModelTest run = new ModelTest(seed);
            try {
                run.run();
            } catch (Differs e) {
                System.out.println("run " + seed + " differs:");
                for (String call : run.calls) {
                    System.out.println("  " + call);
                }
                System.exit(1);
            }
        }
        for (String name : OURS.keySet()) {
            if (OK.getOrDefault(name, 0) == 0) {
                System.out.println("never answered: " + name);
                System.exit(1);
            }
        }
        if (args.length > 2) {
            OK.forEach((name, n) -> System.out.println(name + ": " + n + " told, " + NOT_OK.get(name) + " below 0"));
        }
        System.out.println(runs + " runs are as the model has them");
    }

    private static final class Differs extends RuntimeException {
        private static final long serialVersionUID = 1L;
    }

    private long call(String name, int... a) {
        Object[] args = new Object[a.length];
        StringBuilder told = new StringBuilder(name).append('(');
        for (int i = 0; i < a.length; i++) {
            args[i] = a[i];
            told.append(i == 0 ? "" : ", ").append(a[i]);
        }
        calls.add(told.append(')').toString());
        long due = invoke(MODELS.get(name), model, args);
        long got;
        try {
            got = invoke(OURS.get(name), x, args);
        } catch (RuntimeException e) {
            calls.add("threw " + e.getCause());
            throw new Differs();
        }
        calls.set(calls.size() - 1, told + " = " + got);
        if (got != due) {
            calls.add("due is " + due);
            throw new Differs();
        }
        OK.merge(name, got >= 0 ? 1 : 0, Integer::sum);
        NOT_OK.merge(name, got < 0 ? 1 : 0, Integer::sum);
        return got;
    }

    private static long invoke(Method m, Object on, Object[] args) {
        try {
            return ((Number) m.invoke(on, args)).longValue();
        } catch (IllegalAccessException | InvocationTargetException e) {
            throw new RuntimeException(e.getCause());
        }
    }

    private int of(int n) {
        return random.nextInt(n);
    }

    private boolean once(int in) {
        return of(in) == 0;
    }

    /** Mostly least .. most, now and then beside it. */
    private int n(int least, int most) {
        if (once(60)) {
            int[] odd = {Integer.MIN_VALUE, Integer.MAX_VALUE, least - 1, most + 1, -1, -2, 1000000};
            return odd[of(odd.length)];
        }
        return least + of(most - least + 1);
    }

    private void text(byte[] bytes) {
        int length = Math.min(bytes.length, 400);
        for (int from = 0; from < length; from += 20) {
            int[] four = new int[5];
            for (int i = 0; i < 20; i++) {
                int b = from + i < length ? bytes[from + i] & 255 : 32;
                four[i / 4] = four[i / 4] << 8 | b;
            }
            call("feed", four);
        }
        if (!once(10) || length % 20 != 0) {
            call("end", length);
        }
    }

    private void text(String s) {
        text(s.getBytes(StandardCharsets.ISO_8859_1));
    }

    private String sum(boolean law, int deep) {
        StringBuilder s = new StringBuilder(term(law, deep));
        while (once(4)) {
            s.append(once(2) ? " + " : "-").append(term(law, deep));
        }
        return s.toString();
    }

    private String term(boolean law, int deep) {
        StringBuilder s = new StringBuilder(part(law, deep));
        while (once(6)) {
            s.append(new String[] {"*", " / ", " %"}[of(3)]).append(part(law, deep));
        }
        return s.toString();
    }

    private String part(boolean law, int deep) {
        if (deep > 0 && once(6)) {
            return "[" + sum(law, deep - 1) + "]";
        }
        if (once(2)) {
            return "" + (once(12) ? of(1003) : of(10));
        }
        if (law) {
            return " " + new String[] {"bird", "tree", "favour", "matter", "clauses", "rich", "clock", "night",
                "mood"}[of(9)] + " ";
        }
        String word = new String[] {"night", "done", "latest", "clock", "present", "tree", "stands"}[of(7)];
        String beside = word.equals("tree") ? " " + of(once(40) ? 9 : 7) : word.equals("stands") ? " " + of(6) : "";
        return " " + word + beside + " ";
    }

    private String test(boolean law, int deep) {
        StringBuilder s = new StringBuilder(plain(law, deep));
        while (once(3)) {
            s.append(once(2) ? " or " : " and ").append(plain(law, deep));
        }
        return s.toString();
    }

    private String plain(boolean law, int deep) {
        if (once(6)) {
            return " not " + plain(law, deep);
        }
        if (deep > 0 && once(5)) {
            return "(" + test(law, deep - 1) + ")";
        }
        return sum(law, deep) + new String[] {"<", ">", "="}[of(3)] + sum(law, deep);
    }

    private String lawClause() {
        String[] swaying = {"favour", "favour", "rich+favour", "[favour+tree]%10", "9-favour", "bird*2+1"};
        String first = once(2) ? "sways " + (once(2) ? sum(true, 2) : swaying[of(swaying.length)])
                : once(2) ? "takes " + sum(true, 2) : "bars";
        boolean tested = first.equals("bars") ? !once(12) : once(2);
        return first + (tested ? " if " + (once(3) ? "bird = " + of(7) : test(true, 2)) : "");
    }

    private String orderClause() {
        String first;
        switch (of(4)) {
            case 0:
                first = "move " + (once(6) ? sum(false, 1) : "" + of(4)) + " by " + (once(6) ? "done" : "" + of(5));
                break;
            case 1:
                first = "divide " + (once(6) ? sum(false, 1) : "" + of(4));
                break;
            case 2:
                first = "fly " + of(4) + " to " + (once(4) ? sum(false, 1) : once(3) ? "0-1" : "" + of(20));
                break;
            default:
                first = "pass";
                break;
        }
        String guard = first.startsWith("move") ? " if stands " + of(4) + " = 0"
                : first.startsWith("divide") ? " if stands " + of(4) + " = 1" : " if clock > 3 or tree 1 = 4";
        return first + (once(3) ? " times " + (1 + of(once(20) ? 22 : 20)) : "")
                + (once(3) ? " if " + test(false, 2) : once(3) ? guard : "");
    }

    private String clauses(boolean law) {
        StringBuilder s = new StringBuilder();
        int many = 1 + of(once(12) ? 14 : once(2) ? 5 : 1);
        for (int i = 0; i < many; i++) {
            s.append(i == 0 ? "" : ";").append(law ? lawClause() : orderClause());
        }
        return s.toString();
    }

    private String spoiltText(String s) {
        String[] odd = {" ", ";", "if", "times", "(", ")", "[", "]", "not", "or", "and", "1", "1000", "1001", "tree",
            "by", "to", "A", "\u00e9", "\n", "sways", "pass", "birds", "7", "=", "+", "0", "00000007", "\0", "-"};
        StringBuilder t = new StringBuilder(s);
        for (int i = 1 + of(2); i > 0 && t.length() > 0; i--) {
            int place = of(t.length());
            if (once(2)) {
                t.delete(place, Math.min(t.length(), place + 1 + of(4)));
            } else {
                t.insert(place, odd[of(odd.length)]);
            }
        }
        return t.toString();
    }

    private String longText(boolean law) {
        StringBuilder s = new StringBuilder(law ? "sways " : "divide ");
        int kind = of(5);
        int many = kind == 0 ? 48 + of(4) : kind == 1 ? 7 + of(4) : kind == 2 ? 20 + of(70) : 10 + of(4);
        for (int i = 0; i < many; i++) {
            s.append(new String[] {"1+", "[", i == 0 ? "1 if not " : "not ", "1;" + s, "1 if ("}[kind]);
            if (kind >= 3 && i > 9) {
                break;
            }
        }
        s.append(kind == 2 ? "1=1" : "1");
        for (int i = 0; kind == 1 && i < many; i++) {
            s.append("]");
        }
        return s.length() > 400 ? s.substring(0, 400) : s.toString();
    }

    private String anyText(boolean law) {
        String s = once(20) ? longText(law) : clauses(law);
        return once(8) ? spoiltText(s) : s;
    }

    private void prepare() {
        int birds = 2 + of(6);
        int near = 1 + of(20);
        for (int b = 0; b < birds; b++) {
            call("bird", once(6) ? -1 : of(near), once(2) ? 9 : of(10));
        }
        int matters = 1 + of(6);
        for (int m = 0; m < matters; m++) {
            call("matter", 1 + of(9), of(10));
            for (int b = 0; b < birds; b++) {
                call("favour", b, m, once(3) ? of(10) : 4 + of(6));
            }
        }
        for (int l = of(4); l > 0; l--) {
            text(anyText(true));
            call("law");
        }
        call("force", of(4) - 1);
    }

    private void row() {
        byte[] bytes = new byte[of(64)];
        for (int i = 0; i < bytes.length; i++) {
            bytes[i] = (byte) (once(40) ? of(256) : once(30) ? 10 : of(10));
        }
        text(bytes);
        call("row");
    }

    private void moveWhatCan() {
        for (int m = 0; m < 6; m++) {
            for (int b = 0; b < 7; b++) {
                if (model.at(m, 2) == 0 && model.of(b, 15 + m) > 0 && model.second(m, b) >= 0 && !once(4)) {
                    call("move", m, b);
                }
            }
        }
    }

    private void divideOnWhatIsMoved() {
        int m = of(6);
        for (int i = 0; i < 6 && model.at(m, 2) != 1; i++) {
            m = (m + 1) % 6;
        }
        call("divide", m);
    }

    private void change() {
        switch (of(23)) {
            case 22:
                call("feed", of(9), random.nextInt(), random.nextInt(), of(10), -of(10));
                call("end", n(0, 20 * of(20)));
                break;
            case 0:
                call("bird", n(-1, 19), n(0, 9));
                break;
            case 1:
                call("favour", n(0, 6), n(0, 5), n(0, 9));
                break;
            case 2:
                call("matter", n(1, 9), n(0, 9));
                break;
            case 3:
                if (once(3)) {
                    call("terms", n(0, 3), once(6) ? n(990, 999) : n(0, 9));
                }
                break;
            case 4:
                if (once(4)) {
                    row();
                }
                break;
            case 5:
                text(anyText(!once(8)));
                call("law");
                call("fault");
                call("force", n(-1, 5));
                break;
            case 6:
            case 7:
                text(anyText(once(20)));
                call("orders");
                call("fault");
                call("stopped");
                break;
            case 8:
                call("move", n(0, 5), n(0, 6));
                break;
            case 9:
            case 10:
                moveWhatCan();
                break;
            case 11:
                call("divide", n(0, 5));
                break;
            case 12:
                divideOnWhatIsMoved();
                break;
            case 13:
            case 14:
                call("fly", n(0, 6), n(-1, 19));
                break;
            case 15:
                call("pass");
                break;
            case 16:
                for (int i = of(20); i >= 0 && call("undo") >= 0; i--) {
                    call("count", 3);
                }
                break;
            case 17:
                call("heard", once(4) ? n(0, 7) : Integer.bitCount(Math.max(0, model.at(of(3), 5))));
                break;
            case 18:
                if (once(2)) {
                    call("forget");
                }
                break;
            case 19:
                call("mays", n(0, 1000000), n(1, 60));
                break;
            case 20:
                call("image", n(0, 1));
                break;
            default:
                if (once(2)) {
                    call("back", n(0, 1));
                }
                break;
        }
    }

    private void ask() {
        switch (of(18)) {
            case 0:
                call("of", n(0, 6), n(0, 20));
                break;
            case 1:
                call("at", n(0, 5), n(0, 6));
                break;
            case 2:
                call("cats");
                break;
            case 3:
                call("second", n(0, 5), n(0, 6));
                break;
            case 4:
                for (int i = -1; call("richest", i) >= 0 && i < 6; i++) {
                    call("status");
                }
                break;
            case 5:
                call("byClock", n(0, 48));
                call("byClock", 48);
                break;
            case 6:
                call("spoilt", n(0, 5), n(0, 1));
                break;
            case 7:
                call("come", n(0, 5), n(0, 1));
                break;
            case 8:
                call("chain", n(0, 6), n(0, 6), n(-1, 3));
                break;
            case 9:
                call("ears", n(0, 1));
                break;
            case 10:
                call("loudest", n(0, 1));
                break;
            case 11:
                call("nearest", n(0, 6), n(0, 5));
                break;
            case 12:
                call("canBe");
                call("listen", n(0, 1));
                break;
            case 13:
                call("few", n(1, 20), n(0, 99));
                break;
            case 14:
                call("compare", n(-1, 5), n(0, 5));
                break;
            case 15:
                call("drawn", n(0, 6), n(0, 3));
                call("drawn", 0, n(0, 3));
                break;
            case 16:
                call("count", n(0, 17));
                break;
            default:
                call("status");
                break;
        }
    }

    private void run() {
        if (!once(10)) {
            prepare();
        }
        while (calls.size() < CALLS - 70) {
            if (once(3)) {
                change();
            } else {
                ask();
            }
        }
    }
}
