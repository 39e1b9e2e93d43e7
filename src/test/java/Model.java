import java.util.ArrayDeque;
import java.util.ArrayList;
import java.util.Arrays;
import java.util.List;

/**
 * The document once more, in the plainest way that the Java library allows: trees for TEXTS, exceptions for FAULT and
 * BROKEN, every set and every row tried. ModelTest holds DarkCommittee against it.
 */
final class Model {
    static final class Fault extends RuntimeException {
        private static final long serialVersionUID = 1L;
        final int place;

        Fault(int place) {
            super(null, null, false, false);
            this.place = place;
        }
    }

    static final class Broken extends RuntimeException {
        private static final long serialVersionUID = 1L;

        Broken() {
            super(null, null, false, false);
        }
    }

    static final class Refused extends RuntimeException {
        private static final long serialVersionUID = 1L;
        final int by;

        Refused(int by) {
            super(null, null, false, false);
            this.by = by;
        }
    }

    interface Words {
        long value(String word, int beside);
    }

    interface Sum {
        long value(Words words);
    }

    interface Test {
        boolean so(Words words);
    }

    static final class Clause {
        String kind;
        Sum first;
        Sum second;
        Test test;
        int times = 1;

        boolean holds(Words words) {
            try {
                if (test != null && !test.so(words)) {
                    return false;
                }
                if (first != null) {
                    first.value(words);
                }
                return true;
            } catch (Broken e) {
                return false;
            }
        }
    }

    /** Reads a TEXT character by character. */
    static final class Parser {
        final byte[] text;
        final boolean law;
        int at;
        int parts;

        Parser(byte[] text, boolean law) {
            this.text = text;
            this.law = law;
            blanks();
        }

        void blanks() {
            while (at < text.length && text[at] == 32) {
                at++;
            }
        }

        String token() {
            if (at == text.length) {
                return "";
            }
            int to = at + 1;
            if (letter(at)) {
                while (to < text.length && letter(to)) {
                    to++;
                }
            } else if (digit(at)) {
                while (to < text.length && digit(to)) {
                    to++;
                }
            }
            StringBuilder token = new StringBuilder();
            for (int i = at; i < to; i++) {
                token.append((char) (text[i] & 255));
            }
            return token.toString();
        }

        boolean letter(int i) {
            return text[i] >= 'a' && text[i] <= 'z';
        }

        boolean digit(int i) {
            return text[i] >= '0' && text[i] <= '9';
        }

        boolean take(String wanted) {
            if (!token().equals(wanted)) {
                return false;
            }
            at += wanted.length();
            blanks();
            return true;
        }

        void need(String wanted) {
            if (!take(wanted)) {
                throw new Fault(at);
            }
        }

        int number(int least, int most) {
            String token = token();
            if (token.isEmpty() || !digit(at)) {
                throw new Fault(at);
            }
            java.math.BigInteger n = new java.math.BigInteger(token);
            if (n.compareTo(java.math.BigInteger.valueOf(least)) < 0
                    || n.compareTo(java.math.BigInteger.valueOf(most)) > 0) {
                throw new Fault(at);
            }
            at += token.length();
            blanks();
            return n.intValue();
        }

        List<Clause> read() {
            List<Clause> clauses = new ArrayList<>();
            do {
                if (clauses.size() == 12) {
                    throw new Fault(at);
                }
                clauses.add(law ? lawClause() : orderClause());
            } while (take(";"));
            if (at < text.length) {
                throw new Fault(at);
            }
            return clauses;
        }

        Clause lawClause() {
            Clause c = new Clause();
            c.kind = token();
            if (take("sways") || take("takes")) {
                c.first = sum(0);
            } else {
                need("bars");
            }
            c.test = take("if") ? test(0) : null;
            return c;
        }

        Clause orderClause() {
            Clause c = new Clause();
            c.kind = token();
            if (take("move")) {
                c.first = sum(0);
                need("by");
                c.second = sum(0);
            } else if (take("divide")) {
                c.first = sum(0);
            } else if (take("fly")) {
                c.first = sum(0);
                need("to");
                c.second = sum(0);
            } else {
                need("pass");
            }
            c.times = take("times") ? number(1, 20) : 1;
            c.test = take("if") ? test(0) : null;
            return c;
        }

        Test test(int deep) {
            Test left = both(deep);
            while (take("or")) {
                Test a = left;
                Test b = both(deep);
                left = w -> a.so(w) || b.so(w);
            }
            return left;
        }

        Test both(int deep) {
            Test left = plain(deep);
            while (take("and")) {
                Test a = left;
                Test b = plain(deep);
                left = w -> a.so(w) && b.so(w);
            }
            return left;
        }

        Test plain(int deep) {
            if (take("not")) {
                Test a = plain(deep);
                return w -> !a.so(w);
            }
            if (token().equals("(")) {
                if (deep == 8) {
                    throw new Fault(at);
                }
                take("(");
                Test a = test(deep + 1);
                need(")");
                return a;
            }
            Sum a = sum(deep);
            String sign = token();
            if (!take("<") && !take(">")) {
                need("=");
            }
            Sum b = sum(deep);
            return w -> {
                long x = a.value(w);
                long y = b.value(w);
                return sign.equals("<") ? x < y : sign.equals(">") ? x > y : x == y;
            };
        }

        Sum sum(int deep) {
            Sum left = term(deep);
            while (true) {
                String sign = token();
                if (!take("+") && !take("-")) {
                    return left;
                }
                left = joined(sign, left, term(deep));
            }
        }

        Sum term(int deep) {
            Sum left = part(deep);
            while (true) {
                String sign = token();
                if (!take("*") && !take("/") && !take("%")) {
                    return left;
                }
                left = joined(sign, left, part(deep));
            }
        }

        static Sum joined(String sign, Sum a, Sum b) {
            return w -> {
                long x = a.value(w);
                long y = b.value(w);
                long z;
                switch (sign) {
                    case "+":
                        z = x + y;
                        break;
                    case "-":
                        z = x - y;
                        break;
                    case "*":
                        z = x * y;
                        break;
                    default:
                        if (y == 0) {
                            throw new Broken();
                        }
                        z = sign.equals("/") ? x / y : x % y;
                }
                if (Math.abs(z) > 1000000000L) {
                    throw new Broken();
                }
                return z;
            };
        }

        Sum part(int deep) {
            String token = token();
            if (token.equals("[")) {
                if (deep == 8) {
                    throw new Fault(at);
                }
                take("[");
                Sum a = sum(deep + 1);
                need("]");
                return a;
            }
            if (++parts > 50) {
                throw new Fault(at);
            }
            if (!token.isEmpty() && digit(at)) {
                int n = number(0, 1000);
                return w -> n;
            }
            List<String> words = law
                    ? List.of("bird", "tree", "favour", "matter", "clauses", "rich", "clock", "night", "mood")
                    : List.of("night", "done", "latest", "clock", "present", "tree", "stands");
            if (!words.contains(token)) {
                throw new Fault(at);
            }
            take(token);
            int beside = law ? 0 : token.equals("tree") ? number(0, 6) : token.equals("stands") ? number(0, 5) : 0;
            return w -> w.value(token, beside);
        }
    }

    static final class Bird {
        int tree;
        int range;
        int[] favour = new int[6];

        Bird copy() {
            Bird b = new Bird();
            b.tree = tree;
            b.range = range;
            b.favour = favour.clone();
            return b;
        }
    }

    static final class Matter {
        int clauses;
        int rich;
        int stands;

        Matter copy() {
            Matter m = new Matter();
            m.clauses = clauses;
            m.rich = rich;
            m.stands = stands;
            return m;
        }
    }

    static final class State {
        List<Bird> birds = new ArrayList<>();
        List<Matter> matters = new ArrayList<>();
        int clock;
        int[] terms = {0, 1, 0, 1};
        List<Integer> heard = new ArrayList<>();
        List<List<Clause>> laws = new ArrayList<>();
        int force = -1;

        State copy() {
            State s = new State();
            for (Bird b : birds) {
                s.birds.add(b.copy());
            }
            for (Matter m : matters) {
                s.matters.add(m.copy());
            }
            s.clock = clock;
            s.terms = terms.clone();
            s.heard.addAll(heard);
            s.laws.addAll(laws);
            s.force = force;
            return s;
        }

        boolean away(int b) {
            return birds.get(b).tree < 0;
        }

        List<Clause> law() {
            return force < 0 ? List.of() : laws.get(force);
        }

        Words words(int b, int m) {
            return (word, beside) -> {
                switch (word) {
                    case "bird":
                        return b;
                    case "tree":
                        return b < 0 ? -1 : birds.get(b).tree;
                    case "favour":
                        return b < 0 ? -1 : birds.get(b).favour[m];
                    case "matter":
                        return m;
                    case "clauses":
                        return matters.get(m).clauses;
                    case "rich":
                        return matters.get(m).rich;
                    case "clock":
                        return clock;
                    case "night":
                        return terms[0];
                    default:
                        return terms[2];
                }
            };
        }

        long last(String kind, int b, int m, long without) {
            long told = without;
            for (Clause c : law()) {
                if (c.kind.equals(kind) && c.holds(words(b, m))) {
                    told = c.first == null ? 1 : c.first.value(words(b, m));
                }
            }
            return told;
        }

        int swayed(int b, int m) {
            return (int) Math.max(0, Math.min(9, last("sways", b, m, birds.get(b).favour[m])));
        }

        int takes(int m) {
            return (int) Math.max(1, Math.min(9, last("takes", -1, m, matters.get(m).clauses)));
        }

        boolean sits(int b, int m) {
            return !away(b) && last("bars", b, m, 0) == 0;
        }

        boolean aye(int b, int m) {
            return sits(b, m) && swayed(b, m) >= 5;
        }

        int sitting(int m) {
            int bits = 0;
            for (int b = 0; b < birds.size(); b++) {
                bits |= sits(b, m) ? 1 << b : 0;
            }
            return bits;
        }

        int ayes(int m) {
            int bits = 0;
            for (int b = 0; b < birds.size(); b++) {
                bits |= aye(b, m) ? 1 << b : 0;
            }
            return bits;
        }

        boolean hears(int a, int b) {
            return a != b && !away(a) && !away(b)
                    && Math.abs(birds.get(a).tree - birds.get(b).tree) <= birds.get(b).range;
        }

        int seconder(int m, int by) {
            for (int b = 0; b < birds.size(); b++) {
                if (b != by && hears(b, by) && aye(b, m)) {
                    return b;
                }
            }
            return -1;
        }

        boolean carriedNow(int m) {
            int sit = Integer.bitCount(sitting(m));
            int aye = Integer.bitCount(ayes(m));
            return sit >= terms[3] && aye > sit - aye;
        }

        boolean divisionCanBe(int m) {
            return matters.get(m).stands == 1 && Integer.bitCount(sitting(m)) >= terms[3] && clock + takes(m) <= 48;
        }

        int move(int m, int b) {
            if (m < 0 || m >= matters.size() || b < 0 || b >= birds.size()) {
                throw new Refused(-2);
            }
            int by = seconder(m, b);
            if (matters.get(m).stands != 0 || !sits(b, m) || by < 0) {
                throw new Refused(-3);
            }
            matters.get(m).stands = 1;
            return by;
        }

        int divide(int m) {
            if (m < 0 || m >= matters.size()) {
                throw new Refused(-2);
            }
            if (!divisionCanBe(m)) {
                throw new Refused(-3);
            }
            int ayes = Integer.bitCount(ayes(m));
            int takes = takes(m);
            matters.get(m).stands = carriedNow(m) ? 2 : 3;
            clock += takes;
            return ayes;
        }

        int fly(int b, int tree) {
            if (tree < -1 || tree > 19) {
                throw new Refused(-1);
            }
            if (b < 0 || b >= birds.size()) {
                throw new Refused(-2);
            }
            int was = birds.get(b).tree;
            if (was == tree) {
                throw new Refused(-3);
            }
            birds.get(b).tree = tree;
            return was < 0 ? 20 : was;
        }

        int pass() {
            if (terms[0] == 999) {
                throw new Refused(-3);
            }
            terms[0]++;
            clock = 0;
            int lie = 0;
            for (Matter m : matters) {
                m.stands = m.stands == 2 ? 2 : 0;
                lie += m.stands == 0 ? 1 : 0;
            }
            return lie;
        }

        int act(int kind, int a, int b) {
            return kind == 0 ? move(a, b) : kind == 1 ? divide(a) : kind == 2 ? fly(a, b) : pass();
        }

        int richCarried() {
            int rich = 0;
            for (Matter m : matters) {
                rich += m.stands == 2 ? m.rich : 0;
            }
            return rich;
        }
    }

    static final class Done {
        final int kind;
        final State ahead;

        Done(int kind, State ahead) {
            this.kind = kind;
            this.ahead = ahead;
        }
    }

    State s = new State();
    final State[] images = new State[2];
    ArrayDeque<Done> undos = new ArrayDeque<>();
    byte[] tape = new byte[0];
    int cats;
    int fault = -1;
    int stopped = -1;
    int status;
    final int[] refused = new int[7];
    State may;

    private int refuse(int by) {
        status = by;
        refused[-by]++;
        return by;
    }

    private int ok(int told) {
        status = 0;
        return told;
    }

    private static boolean in(int n, int least, int most) {
        return n >= least && n <= most;
    }

    private boolean isBird(int b) {
        return in(b, 0, s.birds.size() - 1);
    }

    private boolean isMatter(int m) {
        return in(m, 0, s.matters.size() - 1);
    }

    int bird(int tree, int range) {
        if (!in(tree, -1, 19) || !in(range, 0, 9)) {
            return refuse(-1);
        }
        if (s.birds.size() == 7) {
            return refuse(-5);
        }
        undos.clear();
        Bird b = new Bird();
        b.tree = tree;
        b.range = range;
        s.birds.add(b);
        return ok(s.birds.size() - 1);
    }

    int favour(int bird, int matter, int n) {
        if (!in(matter, 0, 5) || !in(n, 0, 9)) {
            return refuse(-1);
        }
        if (!isBird(bird)) {
            return refuse(-2);
        }
        int was = s.birds.get(bird).favour[matter];
        s.birds.get(bird).favour[matter] = n;
        return ok(was);
    }

    int of(int bird, int what) {
        if (!isBird(bird)) {
            return -1;
        }
        Bird b = s.birds.get(bird);
        if (what == 0) {
            return b.tree;
        }
        if (what == 1) {
            return b.range;
        }
        if (what == 2) {
            int bits = 0;
            for (int o = 0; o < s.birds.size(); o++) {
                bits |= s.hears(bird, o) ? 1 << o : 0;
            }
            return bits;
        }
        if (in(what, 3, 8)) {
            return b.favour[what - 3];
        }
        if (in(what, 9, 14)) {
            return isMatter(what - 9) ? s.swayed(bird, what - 9) : -1;
        }
        if (in(what, 15, 20)) {
            int m = what - 15;
            return !isMatter(m) ? -1 : s.aye(bird, m) ? 2 : s.sits(bird, m) ? 1 : 0;
        }
        return -1;
    }

    int matter(int clauses, int rich) {
        if (!in(clauses, 1, 9) || !in(rich, 0, 9)) {
            return refuse(-1);
        }
        if (s.matters.size() == 6) {
            return refuse(-5);
        }
        undos.clear();
        Matter m = new Matter();
        m.clauses = clauses;
        m.rich = rich;
        s.matters.add(m);
        return ok(s.matters.size() - 1);
    }

    int at(int matter, int what) {
        if (!isMatter(matter)) {
            return -1;
        }
        Matter m = s.matters.get(matter);
        switch (what) {
            case 0:
                return m.clauses;
            case 1:
                return m.rich;
            case 2:
                return m.stands;
            case 3:
                return s.takes(matter);
            case 4:
                return s.sitting(matter);
            case 5:
                return s.ayes(matter);
            case 6:
                return s.divisionCanBe(matter) ? 1 : 0;
            default:
                return -1;
        }
    }

    int terms(int what, int value) {
        if (!in(what, 0, 3) || !in(value, 0, new int[] {999, 10, 9, 7}[what])) {
            return refuse(-1);
        }
        undos.clear();
        int was = s.terms[what];
        s.terms[what] = value;
        return ok(was);
    }

    int feed(int a, int b, int c, int d, int e) {
        if (tape.length > 380) {
            return -1;
        }
        java.nio.ByteBuffer more = java.nio.ByteBuffer.allocate(tape.length + 20);
        more.put(tape).putInt(a).putInt(b).putInt(c).putInt(d).putInt(e);
        tape = more.array();
        return tape.length;
    }

    int end(int n) {
        if (!in(n, 0, tape.length)) {
            return -1;
        }
        tape = Arrays.copyOf(tape, n);
        return n;
    }

    int row() {
        if (tape.length == 0) {
            return refuse(-6);
        }
        int came = 0;
        cats = 0;
        for (int from = 0; from < tape.length; from += 8) {
            boolean can = from + 8 <= tape.length && s.birds.size() < 7;
            for (int i = from; can && i < from + 8; i++) {
                can = (tape[i] & 255) <= (i == from ? 19 : 9);
            }
            if (can) {
                Bird b = new Bird();
                b.tree = tape[from];
                b.range = tape[from + 1];
                for (int m = 0; m < 6; m++) {
                    b.favour[m] = tape[from + 2 + m];
                }
                s.birds.add(b);
                came++;
            } else {
                cats++;
            }
        }
        undos.clear();
        tape = new byte[0];
        return ok(came);
    }

    int cats() {
        return cats;
    }

    private List<Clause> read(boolean law) {
        byte[] text = tape;
        tape = new byte[0];
        try {
            List<Clause> clauses = new Parser(text, law).read();
            fault = -1;
            return clauses;
        } catch (Fault e) {
            fault = e.place;
            return null;
        }
    }

    int law() {
        if (s.laws.size() == 6) {
            tape = new byte[0];
            return refuse(-5);
        }
        List<Clause> clauses = read(true);
        if (clauses == null) {
            return refuse(-6);
        }
        s.laws.add(clauses);
        return ok(s.laws.size() - 1);
    }

    int orders() {
        stopped = -1;
        List<Clause> clauses = read(false);
        if (clauses == null) {
            return refuse(-6);
        }
        State aheadOfAll = s.copy();
        ArrayDeque<Done> undosAhead = new ArrayDeque<>(undos);
        int[] done = {0, -1};
        for (int c = 0; c < clauses.size(); c++) {
            try {
                run(clauses.get(c), done);
            } catch (Broken | Refused e) {
                s = aheadOfAll;
                undos = undosAhead;
                stopped = c;
                return refuse(-3);
            }
        }
        return ok(done[0]);
    }

    private void run(Clause c, int[] done) {
        for (int i = 0; i < c.times; i++) {
            Words words = (word, beside) -> {
                switch (word) {
                    case "night":
                        return s.terms[0];
                    case "done":
                        return done[0];
                    case "latest":
                        return done[1];
                    case "clock":
                        return s.clock;
                    case "present":
                        return s.birds.stream().filter(b -> b.tree >= 0).count();
                    case "tree":
                        return isBird(beside) ? s.birds.get(beside).tree : -1;
                    default:
                        return isMatter(beside) ? s.matters.get(beside).stands : -1;
                }
            };
            boolean so;
            try {
                so = c.test == null || c.test.so(words);
            } catch (Broken e) {
                so = false;
            }
            if (so) {
                int a = c.first == null ? 0 : (int) c.first.value(words);
                int b = c.second == null ? 0 : (int) c.second.value(words);
                int kind = List.of("move", "divide", "fly", "pass").indexOf(c.kind);
                int told = doIt(kind, a, b);
                done[0]++;
                done[1] = kind == 1 ? told : done[1];
            }
        }
    }

    int fault() {
        return fault;
    }

    int stopped() {
        return stopped;
    }

    int force(int law) {
        if (law != -1 && !in(law, 0, s.laws.size() - 1)) {
            return refuse(-2);
        }
        int was = s.force;
        s.force = law;
        return ok(was);
    }

    private int doIt(int kind, int a, int b) {
        State ahead = s.copy();
        int told = s.act(kind, a, b);
        undos.addLast(new Done(kind, ahead));
        if (undos.size() > 16) {
            undos.removeFirst();
        }
        return told;
    }

    private int call(int kind, int a, int b) {
        try {
            return ok(doIt(kind, a, b));
        } catch (Refused e) {
            return refuse(e.by);
        }
    }

    int move(int matter, int bird) {
        return call(0, matter, bird);
    }

    int divide(int matter) {
        return call(1, matter, 0);
    }

    int fly(int bird, int tree) {
        return call(2, bird, tree);
    }

    int pass() {
        return call(3, 0, 0);
    }

    int undo() {
        if (undos.isEmpty()) {
            return refuse(-3);
        }
        Done d = undos.removeLast();
        for (int b = 0; b < s.birds.size(); b++) {
            s.birds.get(b).tree = d.ahead.birds.get(b).tree;
        }
        for (int m = 0; m < s.matters.size(); m++) {
            s.matters.get(m).stands = d.ahead.matters.get(m).stands;
        }
        s.clock = d.ahead.clock;
        s.terms[0] = d.ahead.terms[0];
        return ok(d.kind);
    }

    int second(int matter, int bird) {
        return isMatter(matter) && isBird(bird) ? s.seconder(matter, bird) : -1;
    }

    private static boolean before(List<Integer> a, List<Integer> b) {
        for (int i = 0; i < a.size() && i < b.size(); i++) {
            if (!a.get(i).equals(b.get(i))) {
                return a.get(i) < b.get(i);
            }
        }
        return a.size() < b.size();
    }

    private int bestRich;
    private List<Integer> bestRow;

    // from the highest MATTER down, so that "the first such row" is found by comparing rows and not by the way
    private void rows(State on, List<Integer> row, int rich) {
        if (rich > bestRich || rich == bestRich && before(row, bestRow)) {
            bestRich = rich;
            bestRow = new ArrayList<>(row);
        }
        for (int m = on.matters.size() - 1; m >= 0; m--) {
            if (on.divisionCanBe(m)) {
                State next = on.copy();
                next.divide(m);
                row.add(m);
                rows(next, row, rich + (next.matters.get(m).stands == 2 ? next.matters.get(m).rich : 0));
                row.remove(row.size() - 1);
            }
        }
    }

    int richest(int i) {
        bestRich = 0;
        bestRow = new ArrayList<>();
        rows(s.copy(), new ArrayList<>(), 0);
        return i == -1 ? bestRich : in(i, 0, bestRow.size() - 1) ? bestRow.get(i) : -1;
    }

    int byClock(int c) {
        if (!in(c, 0, 48)) {
            return -1;
        }
        State p = s.copy();
        int rich = 0;
        for (int m = 0; m < p.matters.size(); m++) {
            if (p.divisionCanBe(m)) {
                p.divide(m);
                rich += p.matters.get(m).stands == 2 && p.clock <= c ? p.matters.get(m).rich : 0;
            }
        }
        return rich;
    }

    private static int told(int set, int what) {
        return set < 0 ? -1 : what == 0 ? Integer.bitCount(set) : what == 1 ? set : -1;
    }

    private static boolean better(int set, int than) {
        return than < 0 || Integer.bitCount(set) < Integer.bitCount(than)
                || Integer.bitCount(set) == Integer.bitCount(than) && set < than;
    }

    int spoilt(int matter, int what) {
        if (!isMatter(matter)) {
            return -1;
        }
        int best = -1;
        for (int set = 127; set >= 0; set--) {
            if ((set & ~s.sitting(matter)) == 0 && better(set, best)) {
                State p = s.copy();
                for (int b = 0; b < p.birds.size(); b++) {
                    p.birds.get(b).tree = (set >> b & 1) != 0 ? -1 : p.birds.get(b).tree;
                }
                best = p.carriedNow(matter) ? best : set;
            }
        }
        return told(best, what);
    }

    int come(int matter, int what) {
        if (!isMatter(matter)) {
            return -1;
        }
        int away = 0;
        for (int b = 0; b < s.birds.size(); b++) {
            away |= s.away(b) ? 1 << b : 0;
        }
        int best = -1;
        for (int set = 127; set >= 0; set--) {
            if ((set & ~away) == 0 && better(set, best)) {
                State p = s.copy();
                for (int b = 0; b < p.birds.size(); b++) {
                    p.birds.get(b).tree = (set >> b & 1) != 0 ? 0 : p.birds.get(b).tree;
                }
                best = p.carriedNow(matter) ? set : best;
            }
        }
        return told(best, what);
    }

    private List<Integer> bestChain;

    private void chains(int to, List<Integer> walk) {
        int last = walk.get(walk.size() - 1);
        if (last == to) {
            boolean first = bestChain == null || walk.size() < bestChain.size()
                    || walk.size() == bestChain.size() && before(walk, bestChain);
            bestChain = first ? new ArrayList<>(walk) : bestChain;
            return;
        }
        for (int b = s.birds.size() - 1; b >= 0; b--) {
            if (!walk.contains(b) && s.hears(b, last)) {
                walk.add(b);
                chains(to, walk);
                walk.remove(walk.size() - 1);
            }
        }
    }

    int chain(int from, int to, int i) {
        if (!isBird(from) || !isBird(to)) {
            return -1;
        }
        bestChain = null;
        chains(to, new ArrayList<>(List.of(from)));
        if (bestChain == null) {
            return -1;
        }
        return i == -1 ? bestChain.size() - 1 : in(i, 0, bestChain.size() - 2) ? bestChain.get(i + 1) : -1;
    }

    int ears(int what) {
        int best = -1;
        for (int set = 127; set >= 0; set--) {
            boolean all = true;
            for (int b = 0; b < 7 && all; b++) {
                if (!isBird(b) || s.away(b)) {
                    all = (set >> b & 1) == 0;
                } else if ((set >> b & 1) == 0) {
                    boolean heard = false;
                    for (int o = 0; o < s.birds.size(); o++) {
                        heard |= (set >> o & 1) != 0 && s.hears(o, b);
                    }
                    all = heard;
                }
            }
            best = all && better(set, best) ? set : best;
        }
        return told(best, what);
    }

    int loudest(int what) {
        int best = -1;
        int most = -1;
        for (int b = s.birds.size() - 1; b >= 0; b--) {
            int hear = 0;
            for (int o = 0; o < s.birds.size(); o++) {
                hear += s.hears(o, b) ? 1 : 0;
            }
            if (hear >= most) {
                most = hear;
                best = b;
            }
        }
        return what == 0 ? best : what == 1 ? most : -1;
    }

    int nearest(int bird, int matter) {
        if (!isBird(bird) || !isMatter(matter)) {
            return -1;
        }
        int own = s.away(bird) ? 0 : s.birds.get(bird).tree;
        for (int far = 0; far < 20; far++) {
            for (int tree : new int[] {own - far, own + far}) {
                if (in(tree, 0, 19)) {
                    State p = s.copy();
                    p.birds.get(bird).tree = tree;
                    if (p.sits(bird, matter) && p.seconder(matter, bird) >= 0) {
                        return tree;
                    }
                }
            }
        }
        return -1;
    }

    int heard(int ayes) {
        if (!in(ayes, 0, 7)) {
            return refuse(-1);
        }
        if (s.heard.size() == 6) {
            return refuse(-5);
        }
        s.heard.add(ayes);
        return ok(s.heard.size());
    }

    int forget() {
        int was = s.heard.size();
        s.heard.clear();
        return was;
    }

    int canBe() {
        int bits = 0;
        for (int m = 0; m < s.matters.size(); m++) {
            boolean can = true;
            for (int ayes : s.heard) {
                can &= Integer.bitCount(s.ayes(m)) == ayes;
            }
            bits |= can ? 1 << m : 0;
        }
        return bits;
    }

    int listen(int what) {
        int left = canBe();
        if (left == 0 || s.birds.isEmpty()) {
            return -1;
        }
        int best = -1;
        int most = 7;
        for (int b = 0; b < s.birds.size(); b++) {
            int aye = 0;
            int not = 0;
            for (int m = 0; m < s.matters.size(); m++) {
                if ((left >> m & 1) != 0) {
                    aye += s.aye(b, m) ? 1 : 0;
                    not += s.aye(b, m) ? 0 : 1;
                }
            }
            if (Math.max(aye, not) < most) {
                most = Math.max(aye, not);
                best = b;
            }
        }
        return what == 0 ? best : what == 1 ? most : -1;
    }

    long few(int k, int n) {
        if (!in(k, 1, 20) || !in(n, 0, 99)) {
            return -1;
        }
        long[] parts = new long[n + 2];
        parts[0] = 1000000000000L;
        for (int i = 0; i < n; i++) {
            long[] next = new long[n + 2];
            for (int j = 0; j <= i; j++) {
                next[j] += parts[j] * (10 - s.terms[1]) / 10;
                next[j + 1] += parts[j] * s.terms[1] / 10;
            }
            parts = next;
        }
        long sum = 0;
        for (int j = 0; j < k && j < parts.length; j++) {
            sum += parts[j];
        }
        return sum;
    }

    int compare(int law, int matter) {
        if (law != -1 && !in(law, 0, s.laws.size() - 1) || !isMatter(matter)) {
            return -1;
        }
        State p = s.copy();
        p.force = law;
        return Integer.bitCount(p.ayes(matter));
    }

    private long seed;

    private int draw(int of) {
        seed = (seed * 1103 + 12345) % 1000003;
        return (int) (seed % of);
    }

    int mays(int firstSeed, int n) {
        if (!in(firstSeed, 0, 1000000) || !in(n, 1, 60)) {
            return refuse(-1);
        }
        if (s.birds.isEmpty() || s.matters.isEmpty()) {
            return refuse(-3);
        }
        may = s.copy();
        seed = firstSeed;
        for (int i = 0; i < n && may.terms[0] < 999; i++) {
            int b = draw(may.birds.size());
            int m = draw(may.matters.size());
            int tree = draw(20);
            int kind = draw(4);
            try {
                may.act(kind, kind == 2 ? b : m, kind == 2 ? tree : b);
            } catch (Refused e) {
                continue;
            }
        }
        return ok(may.richCarried());
    }

    int drawn(int k, int what) {
        if (may == null || k < 0) {
            return -1;
        }
        switch (what) {
            case 0:
                return k < may.matters.size() ? may.matters.get(k).stands : -1;
            case 1:
                return k < may.birds.size() ? may.birds.get(k).tree : -1;
            case 2:
                return k == 0 ? may.clock : -1;
            case 3:
                return k == 0 ? may.terms[0] : -1;
            default:
                return -1;
        }
    }

    int image(int k) {
        if (!in(k, 0, 1)) {
            return refuse(-1);
        }
        images[k] = s.copy();
        return ok(0);
    }

    int back(int k) {
        if (!in(k, 0, 1)) {
            return refuse(-1);
        }
        if (images[k] == null) {
            return refuse(-2);
        }
        s = images[k].copy();
        undos.clear();
        return ok(0);
    }

    int count(int what) {
        switch (what) {
            case 0:
                return s.birds.size();
            case 1:
                return (int) s.birds.stream().filter(b -> b.tree >= 0).count();
            case 2:
                return s.matters.size();
            case 3:
                return s.clock;
            case 4:
                return s.heard.size();
            case 5:
                return s.laws.size();
            case 6:
                return undos.size();
            case 7:
                return tape.length;
            case 8:
                return refused[1];
            case 9:
                return refused[2];
            case 10:
                return refused[3];
            case 11:
                return refused[5];
            case 12:
                return refused[6];
            case 13:
                return s.force;
            case 14:
            case 15:
            case 16:
            case 17:
                return s.terms[what - 14];
            default:
                return -1;
        }
    }

    int status() {
        return status;
    }
}
