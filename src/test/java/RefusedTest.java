/**
 * A call that is REFUSED, and an ask, leaves all as it is: an object that got the call is held against its twin that
 * did not. What the document lets such a call change (the TAPE, FAULT, where ORDERS stopped) is told beside it.
 */
public final class RefusedTest extends Copse {
    /** Places of what look() sees, beside which twins may differ. */
    private static final int TAPE = 0;
    private static final int FAULT = 1;
    private static final int STOPPED = 2;

    private interface Call {
        long on(DarkCommittee x);
    }

    private interface Maker {
        DarkCommittee make();
    }

    private RefusedTest() {
    }

    public static void main(String[] args) throws IllegalAccessException {
        runAll(RefusedTest.class);
    }

    /** Some of each, with room left. */
    private static DarkCommittee some() {
        DarkCommittee x = birds(new int[] {4, 9, 9, 9, 2}, new int[] {6, 9, 9, 9, 7}, new int[] {-1, 3, 9, 0, 9});
        feed(x, 8, 1, 5, 5, 5, 5, 5, 5, 99);
        x.row();
        x.matter(3, 4);
        x.matter(2, 5);
        x.matter(1, 9);
        inForce(x, "sways favour + bird % 2; takes clauses + 1; bars if matter = 2 and bird = 3");
        law(x, "sways 9 - favour");
        x.terms(1, 2);
        x.heard(2);
        x.heard(3);
        x.mays(7, 40);
        x.pass();
        x.image(0);
        orders(x, "pass; divide 0");
        law(x, "takes 2 if ?");
        x.move(0, 0);
        x.fly(3, 7);
        x.move(1, 1);
        x.divide(0);
        feed(x, "bars if bird = 1");
        return x;
    }

    /** No room for any more, nothing that can be undone. */
    private static DarkCommittee full() {
        DarkCommittee x = willing(7, 6, 9, 5);
        for (int i = 0; i < 6; i++) {
            law(x, "sways " + (i + 4));
            x.heard(7);
        }
        x.mays(9, 60);
        for (int m = 0; m < 6; m++) {
            x.move(m, m);
        }
        for (int m = 0; m < 5; m++) {
            x.divide(m);
        }
        x.terms(0, 999);
        for (int i = 0; i < 20; i++) {
            x.feed(0x62617273, 0x20202020, 0x20202020, 0x20202020, 0x20202020);
        }
        return x;
    }

    private static int put(long[] seen, int from, long... more) {
        System.arraycopy(more, 0, seen, from, more.length);
        return from + more.length;
    }

    /** All that asks tell of an object, then what undo() and back() bring up. */
    private static long[] look(DarkCommittee x) {
        long[] seen = new long[400];
        int n = put(seen, 0, x.count(7), x.fault(), x.stopped(), x.cats());
        for (int what = 0; what < 18; what++) {
            n = what < 7 || what > 12 ? put(seen, n, x.count(what)) : n;
        }
        for (int b = 0; b < 7; b++) {
            n = put(seen, n, x.of(b, 0), x.of(b, 1), x.of(b, 2), x.of(b, 9 + b % 6), x.drawn(b, 1));
            for (int m = 0; m < 6; m++) {
                n = put(seen, n, x.of(b, 3 + m));
            }
        }
        for (int m = 0; m < 6; m++) {
            n = put(seen, n, x.at(m, 0), x.at(m, 1), x.at(m, 2), x.at(m, 3), x.at(m, 5), x.drawn(m, 0));
        }
        for (int l = -1; l < 6; l++) {
            n = put(seen, n, x.compare(l, 0));
        }
        n = put(seen, n, x.canBe(), x.few(3, 9), x.richest(-1), x.byClock(48), x.drawn(0, 2), x.drawn(0, 3));
        for (int i = 0; i < 17; i++) {
            n = put(seen, n, x.undo(), x.of(3, 0), x.at(0, 2), x.at(1, 2), x.count(3), x.count(14));
        }
        n = put(seen, n, x.back(1), x.back(0), x.count(14), x.count(3), x.count(0), x.count(4), x.at(0, 2), x.of(3, 0));
        return java.util.Arrays.copyOf(seen, n);
    }

    private static void same(String what, DarkCommittee x, DarkCommittee twin, int... beside) {
        long[] ours = look(x);
        long[] twins = look(twin);
        for (int place : beside) {
            ours[place] = twins[place];
        }
        due(what + ": how much is seen", ours.length, twins.length);
        for (int i = 0; i < ours.length; i++) {
            due(what + ": at " + i, ours[i], twins[i]);
        }
    }

    private static void refuses(String what, Maker maker, int by, Call call, int... beside) {
        DarkCommittee x = maker.make();
        int[] ahead = new int[5];
        for (int i = 0; i < 5; i++) {
            ahead[i] = x.count(8 + i);
        }
        due(what, call.on(x), by);
        due(what + ": status", x.status(), by);
        int place = by >= -3 ? -by - 1 : -by - 2;
        for (int i = 0; i < 5; i++) {
            due(what + ": count " + (8 + i), x.count(8 + i), ahead[i] + (i == place ? 1 : 0));
        }
        same(what, x, maker.make(), beside);
    }

    private static void byNumbers() {
        says("-1 a number that can't be");
        for (int i = 0; i < 2; i++) {
            Maker maker = i == 0 ? RefusedTest::some : RefusedTest::full;
            refuses("bird(20, 0)", maker, -1, x -> x.bird(20, 0));
            refuses("bird(-2, 0)", maker, -1, x -> x.bird(-2, 0));
            refuses("bird(0, 10)", maker, -1, x -> x.bird(0, 10));
            refuses("bird(0, -1)", maker, -1, x -> x.bird(0, -1));
            refuses("favour(0, 6, 0)", maker, -1, x -> x.favour(0, 6, 0));
            refuses("favour(0, -1, 0)", maker, -1, x -> x.favour(0, -1, 0));
            refuses("favour(0, 0, 10)", maker, -1, x -> x.favour(0, 0, 10));
            refuses("favour(0, 0, -1)", maker, -1, x -> x.favour(0, 0, -1));
            refuses("matter(0, 0)", maker, -1, x -> x.matter(0, 0));
            refuses("matter(10, 0)", maker, -1, x -> x.matter(10, 0));
            refuses("matter(1, -1)", maker, -1, x -> x.matter(1, -1));
            refuses("matter(1, 10)", maker, -1, x -> x.matter(1, 10));
            refuses("terms(4, 0)", maker, -1, x -> x.terms(4, 0));
            refuses("terms(-1, 0)", maker, -1, x -> x.terms(-1, 0));
            refuses("terms(0, 1000)", maker, -1, x -> x.terms(0, 1000));
            refuses("terms(1, 11)", maker, -1, x -> x.terms(1, 11));
            refuses("terms(2, 10)", maker, -1, x -> x.terms(2, 10));
            refuses("terms(3, 8)", maker, -1, x -> x.terms(3, 8));
            refuses("terms(3, -1)", maker, -1, x -> x.terms(3, -1));
            refuses("fly(0, 20)", maker, -1, x -> x.fly(0, 20));
            refuses("fly(9, -2)", maker, -1, x -> x.fly(9, -2));
            refuses("heard(8)", maker, -1, x -> x.heard(8));
            refuses("heard(-1)", maker, -1, x -> x.heard(-1));
            refuses("mays(-1, 1)", maker, -1, x -> x.mays(-1, 1));
            refuses("mays(1000001, 1)", maker, -1, x -> x.mays(1000001, 1));
            refuses("mays(1, 0)", maker, -1, x -> x.mays(1, 0));
            refuses("mays(1, 61)", maker, -1, x -> x.mays(1, 61));
            refuses("image(2)", maker, -1, x -> x.image(2));
            refuses("image(-1)", maker, -1, x -> x.image(-1));
            refuses("back(2)", maker, -1, x -> x.back(2));
            refuses("back(-1)", maker, -1, x -> x.back(-1));
        }
    }

    private static void byNobody() {
        says("-2 there is no such BIRD, MATTER, LAW, IMAGE");
        refuses("favour(4, 0, 0)", RefusedTest::some, -2, x -> x.favour(4, 0, 0));
        refuses("favour(-1, 0, 0)", RefusedTest::some, -2, x -> x.favour(-1, 0, 0));
        refuses("force(2)", RefusedTest::some, -2, x -> x.force(2));
        refuses("force(-2)", RefusedTest::some, -2, x -> x.force(-2));
        refuses("move(3, 0)", RefusedTest::some, -2, x -> x.move(3, 0));
        refuses("move(2, 4)", RefusedTest::some, -2, x -> x.move(2, 4));
        refuses("move(-1, 0)", RefusedTest::some, -2, x -> x.move(-1, 0));
        refuses("move(2, -1)", RefusedTest::some, -2, x -> x.move(2, -1));
        refuses("divide(3)", RefusedTest::some, -2, x -> x.divide(3));
        refuses("divide(-1)", RefusedTest::some, -2, x -> x.divide(-1));
        refuses("fly(4, 0)", RefusedTest::some, -2, x -> x.fly(4, 0));
        refuses("fly(-1, 0)", RefusedTest::some, -2, x -> x.fly(-1, 0));
        refuses("back(1)", RefusedTest::some, -2, x -> x.back(1));
        refuses("favour(7, 0, 0)", RefusedTest::full, -2, x -> x.favour(7, 0, 0));
        refuses("force(6)", RefusedTest::full, -2, x -> x.force(6));
        refuses("move(6, 0)", RefusedTest::full, -2, x -> x.move(6, 0));
        refuses("move(5, 7)", RefusedTest::full, -2, x -> x.move(5, 7));
        refuses("divide(6)", RefusedTest::full, -2, x -> x.divide(6));
        refuses("fly(7, 0)", RefusedTest::full, -2, x -> x.fly(7, 0));
        refuses("back(0)", RefusedTest::full, -2, x -> x.back(0));
    }

    private static void byWhatStands() {
        says("-3 it can't be by what stands");
        refuses("move carried", RefusedTest::some, -3, x -> x.move(0, 0));
        refuses("move moved", RefusedTest::some, -3, x -> x.move(1, 0));
        refuses("move by one away", RefusedTest::some, -3, x -> x.move(2, 2));
        refuses("move by one that withdraws", RefusedTest::some, -3, x -> x.move(2, 3));
        refuses("divide on what lies", RefusedTest::some, -3, x -> x.divide(2));
        refuses("divide on what is carried", RefusedTest::some, -3, x -> x.divide(0));
        refuses("fly to where it is", RefusedTest::some, -3, x -> x.fly(0, 4));
        refuses("fly away while away", RefusedTest::some, -3, x -> x.fly(2, -1));
        refuses("divide beyond the dark", RefusedTest::full, -3, x -> x.divide(5));
        refuses("pass at 999", RefusedTest::full, -3, x -> x.pass());
        refuses("undo of none", RefusedTest::full, -3, x -> x.undo());
        refuses("mays of nobody", RefusedTest::nobody, -3, x -> x.mays(1, 1));
        refuses("undo of none", RefusedTest::nobody, -3, x -> x.undo());
    }

    private static DarkCommittee nobody() {
        DarkCommittee x = new DarkCommittee();
        x.matter(1, 1);
        feed(x, 99);
        x.row();
        return x;
    }

    private static void byNoRoom() {
        says("-5 no room");
        refuses("bird", RefusedTest::full, -5, x -> x.bird(-1, 0));
        refuses("matter", RefusedTest::full, -5, x -> x.matter(9, 9));
        refuses("heard", RefusedTest::full, -5, x -> x.heard(0));
        refuses("law", RefusedTest::full, -5, x -> x.law(), TAPE);
        DarkCommittee x = full();
        x.law();
        due("the tape is empty then, too", x.count(7), 0);
    }

    private static DarkCommittee someWith(String text) {
        DarkCommittee x = some();
        x.end(0);
        feed(x, text);
        return x;
    }

    private static void byTexts() {
        says("-6 a TEXT, a ROW that can't be.");
        refuses("row of an empty tape", () -> someWith(""), -6, x -> x.row());
        refuses("law of an empty tape", () -> someWith(""), -6, x -> x.law(), FAULT);
        refuses("orders of an empty tape", () -> someWith(""), -6, x -> x.orders(), FAULT, STOPPED);
        refuses("no law", () -> someWith("pass"), -6, x -> x.law(), TAPE, FAULT);
        refuses("no orders", () -> someWith("bars"), -6, x -> x.orders(), TAPE, FAULT, STOPPED);
        refuses("a fault behind a clause", () -> someWith("pass; fly 0 to 9; ?"), -6, x -> x.orders(),
                TAPE, FAULT, STOPPED);
        DarkCommittee x = someWith("pass; ?");
        x.orders();
        due("the tape is empty then", x.count(7), 0);
        due("fault", x.fault(), 6);
        due("stopped", x.stopped(), -1);
    }

    private static void byOrders() {
        says("-3 one can't be; -6 (as for law()).");
        String[] texts = {"divide 2", "pass; divide 2", "fly 0 to 9; fly 1 to 9; pass; fly 0 to 9",
            "fly 0 to 5 + done times 15; fly 0 to 1; fly 1 to 2; fly 1 to 2", "divide 1; pass; move 2 by 0; divide 1/0"};
        for (String text : texts) {
            refuses(text, () -> someWith(text), -3, x -> x.orders(), TAPE, FAULT, STOPPED);
            DarkCommittee x = someWith(text);
            x.orders();
            due("fault: " + text, x.fault(), -1);
            due("tape: " + text, x.count(7), 0);
        }
    }

    private static void tapeThatStays() {
        says("`int feed(int a, int b, int c, int d, int e)`: Twenty bytes come behind the TAPE");
        DarkCommittee x = full();
        due("no room on the tape", x.feed(1, 2, 3, 4, 5), -1);
        same("feed", x, full());
        DarkCommittee y = full();
        due("beyond its end", y.end(401), -1);
        due("below 0", y.end(-1), -1);
        same("end", y, full());
        DarkCommittee z = some();
        due("beyond its end", z.end(17), -1);
        due("below 0", z.end(-1), -1);
        due("none of them is a refusal", z.status(), some().status());
        due("the tape is a law still", z.law(), 2);
        due("by which one withdraws", z.compare(2, 0), 2);
    }

    /** Each ask with the numbers that it knows, and beside them. */
    private static void ask(DarkCommittee x, int i) {
        x.of(i, 2);
        x.of(0, 9 + i);
        x.at(i, 6);
        x.at(1, i);
        x.second(i, i);
        x.richest(i);
        x.byClock(8 * i);
        x.spoilt(i, i % 3);
        x.come(i, i % 3);
        x.chain(i, 0, -1);
        x.chain(0, i, 0);
        x.ears(i);
        x.loudest(i);
        x.nearest(i, 0);
        x.nearest(0, i);
        x.canBe();
        x.listen(i);
        x.few(i, 9);
        x.compare(i, 1);
        x.drawn(i, i);
        x.count(i);
        x.status();
        x.fault();
        x.stopped();
        x.cats();
    }

    private static void asks() {
        says("(On paper, BIRDS as they are:)");
        for (int i = -2; i < 9; i++) {
            DarkCommittee x = some();
            ask(x, i);
            due("status", x.status(), 0);
            same("asks of some by " + i, x, some());
            DarkCommittee y = full();
            ask(y, i);
            due("status", y.status(), 0);
            same("asks of all by " + i, y, full());
        }
    }
}
