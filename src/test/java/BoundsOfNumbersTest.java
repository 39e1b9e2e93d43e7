/** "What it is" and I of the document: each sentence that names a bound, at it, just below it and just above it. */
public final class BoundsOfNumbersTest extends Copse {
    private BoundsOfNumbersTest() {
    }

    public static void main(String[] args) throws IllegalAccessException {
        runAll(BoundsOfNumbersTest.class);
    }

    private static void fiveHundredAndTwelveCalls() {
        says("An object is used for at most 512 calls after it has been made");
        DarkCommittee x = fresh();
        x.bird(0, 0);
        for (int call = 2; call <= 510; call++) {
            due("call " + call, x.fly(0, call % 2 == 0 ? 1 : 0), call % 2 == 0 ? 0 : 1);
        }
        due("call 511", x.count(6), 16);
        due("call 512", x.undo(), 2);
        DarkCommittee y = fresh();
        y.image(0);
        for (int call = 2; call <= 511; call += 3) {
            y.feed(0x62617273, 0x20202020, 0x20202020, 0x20202020, 0x20202020);
            due("a law in call " + call, y.law(), 0);
            y.back(0);
        }
        due("call 512", y.count(5), 0);
    }

    private static void treesOfBirds() {
        says("TREES 0 .. 19 in a row.");
        DarkCommittee x = fresh();
        refused("tree -2", x, x.bird(-2, 0), -1);
        due("tree -1: away", x.bird(-1, 0), 0);
        due("tree 0", x.bird(0, 0), 1);
        due("tree 1", x.bird(1, 0), 2);
        due("tree 18", x.bird(18, 0), 3);
        due("tree 19", x.bird(19, 0), 4);
        refused("tree 20", x, x.bird(20, 0), -1);
        int[] trees = {-1, 0, 1, 18, 19};
        for (int b = 0; b < 5; b++) {
            due("tree of " + b, x.of(b, 0), trees[b]);
        }
    }

    private static void treesOfFlights() {
        says("TREES 0 .. 19 in a row.");
        DarkCommittee x = fresh();
        x.bird(5, 0);
        refused("to -2", x, x.fly(0, -2), -1);
        due("to 0", x.fly(0, 0), 5);
        due("to 19", x.fly(0, 19), 0);
        refused("to 20", x, x.fly(0, 20), -1);
        due("away", x.fly(0, -1), 19);
        due("to 18", x.fly(0, 18), 20);
    }

    private static void treesAreNoRing() {
        says("TREES 0 .. 19 in a row.");
        DarkCommittee x = birds(new int[] {0, 9}, new int[] {19, 9}, new int[] {10, 0}, new int[] {9, 0});
        due("19 is not beside 0", x.of(1, 2), 0);
        due("10 is 9 from 19, 10 from 0", x.of(2, 2), 2);
        due("9 is 9 from 0, 10 from 19", x.of(3, 2), 1);
    }

    private static void sevenBirds() {
        says("BIRDS 0 .. 6 (7 at most)");
        DarkCommittee x = fresh();
        due("none", x.count(0), 0);
        for (int b = 0; b < 7; b++) {
            due("no bird yet", x.of(b, 1), -1);
            due("bird", x.bird(b, b), b);
            due("its range", x.of(b, 1), b);
        }
        refused("an eighth", x, x.bird(9, 9), -5);
        due("seven", x.count(0), 7);
        due("the last stays", x.of(6, 0) * 10 + x.of(6, 1), 66);
        due("no bird 7", x.of(7, 1), -1);
        due("no bird -1", x.of(-1, 1), -1);
        DarkCommittee y = fresh();
        y.feed(0, 0, 0x01000000, 0, 0x02000000);
        y.feed(0, 0x03000000, 0, 0x04000000, 0);
        y.feed(0x05000000, 0, 0x06000000, 0, 0x07090909);
        y.feed(0x09090909, 0, 0, 0, 0);
        y.end(64);
        due("a row of eight", y.row(), 7);
        due("one has no room", y.cats(), 1);
        due("the last stays", y.of(6, 0) * 100 + y.of(6, 1) * 10 + y.of(6, 3), 600);
        y.feed(0x01010101, 0x01010101, 0, 0, 0);
        y.end(8);
        due("a ninth", y.row() * 10 + y.cats(), 1);
        due("still stays", y.of(6, 0), 6);
    }

    private static void ranges() {
        says("a RANGE 0 .. 9");
        DarkCommittee x = fresh();
        refused("range -1", x, x.bird(3, -1), -1);
        due("range 0", x.bird(3, 0), 0);
        due("range 1", x.bird(3, 1), 1);
        due("range 8", x.bird(3, 8), 2);
        due("range 9", x.bird(3, 9), 3);
        refused("range 10", x, x.bird(3, 10), -1);
        due("they are", x.of(0, 1) * 1000 + x.of(1, 1) * 100 + x.of(2, 1) * 10 + x.of(3, 1), 189);
    }

    private static void favours() {
        says("a FAVOUR 0 .. 9 for each of MATTERS 0 .. 5 (0 at first)");
        DarkCommittee x = fresh();
        x.bird(3, 3);
        for (int m = 0; m < 6; m++) {
            due("at first for " + m, x.of(0, 3 + m), 0);
            refused("favour -1", x, x.favour(0, m, -1), -1);
            due("favour 9", x.favour(0, m, 9), 0);
            refused("favour 10", x, x.favour(0, m, 10), -1);
            due("it is", x.of(0, 3 + m), 9);
            due("favour 0", x.favour(0, m, 0), 9);
            due("favour m", x.favour(0, m, m), 0);
        }
        for (int m = 0; m < 6; m++) {
            due("each its own", x.of(0, 3 + m), m);
        }
        refused("for matter -1", x, x.favour(0, -1, 1), -1);
        refused("for matter 6", x, x.favour(0, 6, 1), -1);
        x.bird(3, 3);
        for (int m = 0; m < 6; m++) {
            due("the next has none for " + m, x.of(1, 3 + m), 0);
        }
    }

    private static void sixMatters() {
        says("MATTERS 0 .. 5 (6 at most)");
        DarkCommittee x = fresh();
        for (int m = 0; m < 6; m++) {
            due("no matter yet", x.at(m, 0), -1);
            due("matter", x.matter(m + 1, m), m);
            due("its clauses", x.at(m, 0), m + 1);
            due("how many", x.count(2), m + 1);
        }
        refused("a seventh", x, x.matter(9, 9), -5);
        due("six", x.count(2), 6);
        due("the last stays", x.at(5, 0) * 10 + x.at(5, 1), 65);
        due("no matter 6", x.at(6, 0), -1);
        due("no matter -1", x.at(-1, 0), -1);
    }

    private static void clausesAndRich() {
        says("CLAUSES 1 .. 9, RICH 0 .. 9; it LIES (at first), is MOVED, CARRIED, LOST.");
        DarkCommittee x = fresh();
        refused("clauses 0", x, x.matter(0, 5), -1);
        due("clauses 1", x.matter(1, 5), 0);
        due("clauses 9", x.matter(9, 5), 1);
        refused("clauses 10", x, x.matter(10, 5), -1);
        refused("rich -1", x, x.matter(5, -1), -1);
        due("rich 0", x.matter(5, 0), 2);
        due("rich 9", x.matter(5, 9), 3);
        refused("rich 10", x, x.matter(5, 10), -1);
        due("clauses", x.at(0, 0) * 10 + x.at(1, 0), 19);
        due("rich", x.at(2, 1) * 10 + x.at(3, 1), 9);
        for (int m = 0; m < 4; m++) {
            due("it lies", x.at(m, 2), 0);
        }
        DarkCommittee y = birds(new int[] {4, 9, 9, 0}, new int[] {4, 9, 9, 9});
        y.matter(1, 1);
        y.matter(1, 1);
        y.move(0, 0);
        y.move(1, 0);
        due("moved", y.at(0, 2), 1);
        y.divide(0);
        y.divide(1);
        due("carried", y.at(0, 2), 2);
        due("lost", y.at(1, 2), 3);
    }

    /** Five of six MATTERS are CARRIED by that time, 5 .. 45; the sixth, 5, is MOVED. It TAKES as MOOD tells. */
    private static DarkCommittee atClock(int clock) {
        DarkCommittee x = willing(3, 6, 9, 1);
        inForce(x, "takes mood");
        for (int m = 0; m < 6; m++) {
            x.move(m, 0);
        }
        for (int m = 0; m < 5; m++) {
            x.terms(2, Math.min(9, clock - x.count(3) - (4 - m)));
            x.divide(m);
        }
        return x;
    }

    private static void clockAndLight() {
        says("CLOCK 0 .. 48 (0 at first; 48: it is LIGHT)");
        due("at first", fresh().count(3), 0);
        for (int takes = 3; takes <= 9; takes++) {
            for (int light = 47; light <= 49; light++) {
                if (light - takes <= 45) {
                    DarkCommittee x = atClock(light - takes);
                    x.terms(2, takes);
                    due("clock", x.count(3), light - takes);
                    due("to " + light + ": it can be", x.at(5, 6), light > 48 ? 0 : 1);
                    due("to " + light + ": richest", x.richest(-1), light > 48 ? 0 : 1);
                    due("to " + light + ": by the clock", x.byClock(48), light > 48 ? 0 : 1);
                    due("to " + light, x.divide(5), light > 48 ? -3 : 3);
                    due("clock then", x.count(3), light > 48 ? light - takes : light);
                    due("how it stands", x.at(5, 2), light > 48 ? 1 : 2);
                }
            }
        }
    }

    private static void darkAgain() {
        says("A NIGHT: CLOCK is 0");
        DarkCommittee x = atClock(45);
        x.terms(2, 3);
        x.divide(5);
        due("light", x.count(3), 48);
        x.pass();
        due("dark again", x.count(3), 0);
        x.undo();
        due("light again", x.count(3), 48);
    }

    private static void sixHeard() {
        says("HEARD, 6 at most: so many 0 .. 7 are AYES on a MATTER nobody knows");
        DarkCommittee x = fresh();
        refused("-1", x, x.heard(-1), -1);
        refused("8", x, x.heard(8), -1);
        due("0", x.heard(0), 1);
        due("1", x.heard(1), 2);
        due("6", x.heard(6), 3);
        due("7", x.heard(7), 4);
        due("a fifth", x.heard(3), 5);
        due("a sixth", x.heard(3), 6);
        refused("a seventh", x, x.heard(3), -5);
        due("six", x.count(4), 6);
        due("forgotten", x.forget(), 6);
        due("room again", x.heard(7), 1);
    }

    private static void sevenAyesHeard() {
        says("HEARD, 6 at most: so many 0 .. 7 are AYES on a MATTER nobody knows");
        DarkCommittee x = willing(7, 1, 1, 1);
        x.matter(1, 1);
        x.heard(7);
        due("seven ayes", x.canBe(), 1);
        x.forget();
        x.heard(0);
        due("no ayes", x.canBe(), 2);
        x.forget();
        x.heard(6);
        due("six of none", x.canBe(), 0);
        x.fly(6, -1);
        due("six now", x.canBe(), 1);
    }

    private static void term(int what, int first, int most) {
        DarkCommittee x = fresh();
        due("at first", x.count(14 + what), first);
        refused("-1", x, x.terms(what, -1), -1);
        refused("one too many", x, x.terms(what, most + 1), -1);
        due("as it was", x.count(14 + what), first);
        due("the most", x.terms(what, most), first);
        due("it is", x.count(14 + what), most);
        due("one less", x.terms(what, most - 1), most);
        due("0", x.terms(what, 0), most - 1);
        due("it is", x.count(14 + what), 0);
        due("1", x.terms(what, 1), 0);
        due("it is", x.count(14 + what), 1);
        for (int other = 0; other < 4; other++) {
            due("no other", x.count(14 + other), other == what ? 1 : new int[] {0, 1, 0, 1}[other]);
        }
    }

    private static void night() {
        says("0 NIGHT 0 .. 999 (0 at first)");
        term(0, 0, 999);
    }

    private static void dumb() {
        says("1 DUMB 0 .. 10 (1)");
        term(1, 1, 10);
    }

    private static void mood() {
        says("2 MOOD 0 .. 9 (0)");
        term(2, 0, 9);
    }

    private static void quorum() {
        says("3 QUORUM 0 .. 7 (1)");
        term(3, 1, 7);
    }

    private static void noOtherTerm() {
        says("`int terms(int what, int value)`: A TERM: what it was. -1.");
        DarkCommittee x = fresh();
        refused("term -1", x, x.terms(-1, 0), -1);
        refused("term 4", x, x.terms(4, 0), -1);
        due("term 0", x.terms(0, 0), 0);
        due("term 3", x.terms(3, 0), 1);
    }

    private static void bits() {
        says("Sets are told as bits.");
        DarkCommittee x = willing(7, 6, 1, 1);
        due("sitting: all seven", x.at(0, 4), 127);
        due("ayes: all seven", x.at(5, 5), 127);
        due("whom 0 hears: all but itself", x.of(0, 2), 126);
        due("whom 6 hears: all but itself", x.of(6, 2), 63);
        due("all six matters", x.canBe(), 63);
        for (int b = 0; b < 6; b++) {
            x.fly(b, -1);
        }
        due("sitting: 6 alone", x.at(0, 4), 64);
        due("ears: 6 alone", x.ears(1), 64);
        due("spoilt: 6 leaves", x.spoilt(0, 1), 64);
        for (int m = 0; m < 5; m++) {
            x.favour(6, m, 0);
        }
        x.heard(1);
        due("matter 5 alone", x.canBe(), 32);
        DarkCommittee y = birds(new int[] {-1, 9, 9}, new int[] {-1, 9, 9}, new int[] {-1, 9, 9},
                new int[] {-1, 9, 9}, new int[] {-1, 9, 9}, new int[] {-1, 9, 9}, new int[] {-1, 9, 9});
        y.matter(1, 1);
        y.terms(3, 7);
        due("all seven would have to come", y.come(0, 1), 127);
    }

    private static DarkCommittee full() {
        DarkCommittee x = willing(7, 6, 1, 1);
        for (int i = 0; i < 6; i++) {
            x.heard(i);
            law(x, "bars");
        }
        return x;
    }

    private static void whichRefusalIsFirst() {
        says("The first of these in that order.");
        DarkCommittee x = full();
        refused("no number, no room: bird", x, x.bird(20, 0), -1);
        refused("no room: bird", x, x.bird(19, 0), -5);
        refused("no number, no room: matter", x, x.matter(0, 0), -1);
        refused("no room: matter", x, x.matter(1, 0), -5);
        refused("no number, no room: heard", x, x.heard(8), -1);
        refused("no room: heard", x, x.heard(7), -5);
        refused("no number, no bird: favour", x, x.favour(7, 6, 0), -1);
        refused("no favour, no bird: favour", x, x.favour(7, 0, 10), -1);
        refused("no bird: favour", x, x.favour(7, 5, 9), -2);
        refused("no number, no bird: fly", x, x.fly(7, 20), -1);
        refused("no bird: fly", x, x.fly(7, 19), -2);
        refused("it is there: fly", x, x.fly(6, 4), -3);
        x.move(0, 0);
        refused("no bird, moved already: move", x, x.move(0, 7), -2);
        refused("moved already: move", x, x.move(0, 0), -3);
        refused("no matter, no bird: move", x, x.move(6, 7), -2);
        refused("no matter: divide", x, x.divide(6), -2);
        refused("it lies: divide", x, x.divide(5), -3);
        refused("no number, not kept: back", x, x.back(2), -1);
        refused("not kept: back", x, x.back(1), -2);
        feed(x, "no law");
        refused("no room, no law: law", x, x.law(), -5);
        DarkCommittee y = fresh();
        refused("no number, nobody: mays", y, y.mays(0, 0), -1);
        refused("no seed, nobody: mays", y, y.mays(1000001, 1), -1);
        refused("nobody: mays", y, y.mays(0, 1), -3);
    }

    private static final int[] FAR = {Integer.MIN_VALUE, Integer.MIN_VALUE + 3, -1000000, 1000000,
        Integer.MAX_VALUE - 3, Integer.MAX_VALUE};

    private static void numbersFarBeyond() {
        says("-1 a number that can't be");
        for (int far : FAR) {
            DarkCommittee x = willing(3, 2, 1, 1);
            x.image(0);
            refused("bird", x, x.bird(far, 0), -1);
            refused("bird", x, x.bird(0, far), -1);
            refused("favour", x, x.favour(0, far, 0), -1);
            refused("favour", x, x.favour(0, 0, far), -1);
            refused("matter", x, x.matter(far, 0), -1);
            refused("matter", x, x.matter(1, far), -1);
            refused("terms", x, x.terms(far, 0), -1);
            for (int what = 0; what < 4; what++) {
                refused("terms " + what, x, x.terms(what, far), -1);
            }
            refused("fly", x, x.fly(0, far), -1);
            refused("heard", x, x.heard(far), -1);
            if (far != 1000000) {
                refused("mays", x, x.mays(far, 1), -1);
            }
            refused("mays", x, x.mays(1, far), -1);
            refused("image", x, x.image(far), -1);
            refused("back", x, x.back(far), -1);
        }
    }

    private static void nobodyFarBeyond() {
        says("-2 there is no such BIRD, MATTER, LAW, IMAGE");
        for (int far : FAR) {
            DarkCommittee x = willing(3, 2, 1, 1);
            refused("favour", x, x.favour(far, 0, 0), -2);
            refused("force", x, x.force(far), -2);
            refused("move", x, x.move(far, 0), -2);
            refused("move", x, x.move(0, far), -2);
            refused("divide", x, x.divide(far), -2);
            refused("fly", x, x.fly(far, 0), -2);
            due("of", x.of(far, 0), -1);
            due("at", x.at(far, 0), -1);
            due("second", x.second(far, 0), -1);
            due("second", x.second(0, far), -1);
            due("spoilt", x.spoilt(far, 0), -1);
            due("come", x.come(far, 0), -1);
            due("chain", x.chain(far, 0, -1), -1);
            due("chain", x.chain(0, far, -1), -1);
            due("nearest", x.nearest(far, 0), -1);
            due("nearest", x.nearest(0, far), -1);
            due("compare", x.compare(far, 0), -1);
            due("compare", x.compare(-1, far), -1);
            due("drawn", x.drawn(far, 0), -1);
        }
    }

    private static void asksFarBeyond() {
        says("`NONE = -1`: There is none.");
        due("the constant", DarkCommittee.NONE, -1);
        for (int far : FAR) {
            DarkCommittee x = willing(3, 2, 1, 1);
            x.move(0, 0);
            x.mays(1, 1);
            due("of", x.of(0, far), -1);
            due("at", x.at(0, far), -1);
            due("end", x.end(far), -1);
            due("richest", x.richest(far), -1);
            due("byClock", x.byClock(far), -1);
            due("spoilt", x.spoilt(0, far), -1);
            due("come", x.come(0, far), -1);
            due("chain", x.chain(0, 1, far), -1);
            due("ears", x.ears(far), -1);
            due("loudest", x.loudest(far), -1);
            due("listen", x.listen(far), -1);
            due("few", x.few(far, 1), -1);
            due("few", x.few(1, far), -1);
            due("drawn", x.drawn(far, 0), -1);
            due("drawn", x.drawn(0, far), -1);
            due("count", x.count(far), -1);
        }
    }
}
