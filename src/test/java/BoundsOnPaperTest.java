/** III of the document, as far as it is on paper: each sentence that names a bound, at it, below it and above it. */
public final class BoundsOnPaperTest extends Copse {
    private BoundsOnPaperTest() {
    }

    public static void main(String[] args) throws IllegalAccessException {
        runAll(BoundsOnPaperTest.class);
    }

    /** MATTERS that are MOVED, all willingly CARRIED, each told by its CLAUSES and how RICH it is. */
    private static DarkCommittee moved(int[]... matters) {
        int[] willing = {4, 9, 9, 9, 9, 9, 9, 9};
        DarkCommittee x = birds(willing, willing, willing);
        for (int m = 0; m < matters.length; m++) {
            x.matter(matters[m][0], matters[m][1]);
            x.move(m, 0);
        }
        return x;
    }

    private static void row(String what, DarkCommittee x, int rich, int... row) {
        due(what + ": how rich", x.richest(-1), rich);
        for (int i = 0; i < row.length; i++) {
            due(what + ": " + i, x.richest(i), row[i]);
        }
        due(what + ": no more", x.richest(row.length), -1);
        due(what + ": none below", x.richest(-2), -1);
    }

    private static void richestOfNone() {
        says("`int richest(int i)`: The RICHEST order: how RICH (i NONE), the i-th MATTER. NONE.");
        row("no birds", new DarkCommittee(), 0);
        DarkCommittee x = willing(3, 2, 1, 5);
        row("none is moved", x, 0);
        x.move(1, 0);
        row("one is moved", x, 5, 1);
        x.divide(1);
        row("it is carried", x, 0);
        row("poor", moved(new int[] {1, 0}), 0);
        row("poor and rich", moved(new int[] {1, 0}, new int[] {1, 1}), 1, 0, 1);
        row("rich and poor", moved(new int[] {1, 1}, new int[] {1, 0}), 1, 0);
    }

    private static void richestAskedAnew() {
        says("(On paper, BIRDS as they are:) The RICHEST order: some MATTERS that are MOVED");
        DarkCommittee x = moved(new int[] {1, 3}, new int[] {1, 2});
        row("both", x, 5, 0, 1);
        for (int b = 0; b < 3; b++) {
            x.favour(b, 0, 0);
        }
        row("0 would be lost", x, 2, 0, 1);
        x.terms(3, 4);
        row("no quorum", x, 0);
        x.terms(3, 3);
        inForce(x, "bars if matter = 0 and bird = 2 or matter = 1 and clock = 0 and bird = 2");
        row("neither can be at 0", x, 0);
        x.force(-1);
        row("as without a law", x, 2, 0, 1);
        x.favour(0, 0, 5);
        x.favour(1, 0, 5);
        row("both again", x, 5, 0, 1);
        x.fly(2, -1);
        row("no quorum again", x, 0);
    }

    private static void richestByForEight() {
        says("each as it can be by then (CLOCK going on as they TAKE), "
                + "so that those CARRIED by it are most RICH together");
        int[] nine = {9, 1};
        row("45", moved(nine, nine, nine, nine, nine), 5, 0, 1, 2, 3, 4);
        row("54", moved(nine, nine, nine, nine, nine, nine), 5, 0, 1, 2, 3, 4);
        row("48", moved(nine, nine, nine, nine, nine, new int[] {3, 1}), 6, 0, 1, 2, 3, 4, 5);
        row("49", moved(nine, nine, nine, nine, nine, new int[] {4, 1}), 5, 0, 1, 2, 3, 4);
        row("49, the last is rich", moved(nine, nine, nine, nine, nine, new int[] {4, 2}), 6, 0, 1, 2, 3, 5);
        row("49, the first is poor", moved(new int[] {9, 0}, nine, nine, nine, nine, new int[] {4, 1}), 5,
                1, 2, 3, 4, 5);
        DarkCommittee x = moved(nine, nine, nine, nine, nine, new int[] {3, 1});
        x.divide(0);
        row("from 9 on", x, 5, 1, 2, 3, 4, 5);
        due("on paper", x.count(3) * 10 + x.at(1, 2), 91);
    }

    private static void richestFirstRow() {
        says("the first such row, by MATTERS one behind the other, a row that ends ahead of one that goes on.");
        row("by rising numbers", moved(new int[] {1, 3}, new int[] {1, 3}, new int[] {1, 3}), 9, 0, 1, 2);
        row("it ends", moved(new int[] {1, 3}, new int[] {1, 3}, new int[] {1, 0}), 6, 0, 1);
        row("poor ones ahead", moved(new int[] {1, 0}, new int[] {1, 3}, new int[] {1, 0}), 3, 0, 1);
        DarkCommittee x = moved(new int[] {2, 3}, new int[] {2, 3});
        inForce(x, "sways 0 if matter = 0 and clock = 0");
        row("the second ahead", x, 6, 1, 0);
        inForce(x, "sways 0 if clock = 0 or clock = 2 and matter = 1");
        row("one of both", x, 3, 1, 0);
        inForce(x, "sways 0 if matter = 0");
        row("the lost one ahead", x, 3, 0, 1);
        inForce(x, "sways 0 if matter = 0 or clock > 1");
        row("alone", x, 3, 1);
        inForce(x, "bars if clock = 0 and matter = 0 or clock = 2 and matter = 1");
        row("where it can't be first", x, 6, 1, 0);
    }

    private static void byTheClock() {
        says("BY THE CLOCK c 0 .. 48: how RICH those are together");
        DarkCommittee x = moved(new int[] {9, 1}, new int[] {9, 2}, new int[] {9, 4}, new int[] {9, 3},
                new int[] {9, 5}, new int[] {3, 9});
        due("c -1", x.byClock(-1), -1);
        due("c 49", x.byClock(49), -1);
        int[] done = {9, 18, 27, 36, 45, 48};
        int[] rich = {1, 3, 7, 10, 15, 24};
        due("c 0", x.byClock(0), 0);
        for (int i = 0; i < 6; i++) {
            due("c " + (done[i] - 1), x.byClock(done[i] - 1), i == 0 ? 0 : rich[i - 1]);
            due("c " + done[i], x.byClock(done[i]), rich[i]);
            due("c " + (done[i] + 1), x.byClock(done[i] + 1), done[i] == 48 ? -1 : rich[i]);
        }
        x.divide(1);
        due("from 9 on: c 9", x.byClock(9), 0);
        due("from 9 on: c 17", x.byClock(17), 0);
        due("from 9 on: c 18", x.byClock(18), 1);
        due("from 9 on: c 48", x.byClock(48), 22);
        due("on paper", x.count(3) * 10 + x.at(0, 2), 91);
    }

    private static void byTheClockLeftOut() {
        says("(one on which it can't be then is left out, all others take their time, whatever c is)");
        DarkCommittee x = moved(new int[] {9, 1}, new int[] {9, 2}, new int[] {9, 4}, new int[] {9, 3},
                new int[] {9, 5}, new int[] {4, 9});
        due("49: left out", x.byClock(48), 15);
        inForce(x, "sways 0 if matter = 2");
        due("lost, it takes its time: c 35", x.byClock(35), 3);
        due("lost, it takes its time: c 36", x.byClock(36), 6);
        inForce(x, "bars if matter = 2");
        due("no quorum, it takes none: c 26", x.byClock(26), 3);
        due("no quorum, it takes none: c 27", x.byClock(27), 6);
        due("then the last can be: c 39", x.byClock(39), 11);
        due("then the last can be: c 40", x.byClock(40), 20);
        x.terms(3, 0);
        due("quorum 0: lost, it takes its time", x.byClock(35), 3);
        x.terms(3, 1);
        inForce(x, "bars if clock = 0");
        due("nothing can be at 0", x.byClock(48), 0);
        inForce(x, "bars if clock = 0 and matter < 2");
        due("2 is the first", x.byClock(9), 4);
    }

    private static void spoiltBy(String what, DarkCommittee x, int howMany, int who) {
        due(what + ": how many", x.spoilt(0, 0), howMany);
        due(what + ": who", x.spoilt(0, 1), who);
    }

    private static DarkCommittee votes(int quorum, int... favours) {
        DarkCommittee x = new DarkCommittee();
        for (int b = 0; b < favours.length; b++) {
            x.bird(4, 9);
            x.favour(b, 0, favours[b]);
        }
        x.matter(1, 1);
        x.terms(3, quorum);
        return x;
    }

    private static void spoilt() {
        says("by the fewest BIRDS of those SITTING on it who would be AWAY by which it would not be CARRIED now");
        spoiltBy("nobody", votes(1), 0, 0);
        spoiltBy("one no", votes(1, 4), 0, 0);
        spoiltBy("one aye", votes(1, 5), 1, 1);
        spoiltBy("one aye, quorum 0", votes(0, 5), 1, 1);
        spoiltBy("equal", votes(1, 4, 5), 0, 0);
        spoiltBy("one more", votes(1, 4, 5, 5), 1, 2);
        spoiltBy("two more", votes(1, 4, 5, 5, 5), 2, 6);
        spoiltBy("all ayes", votes(1, 5, 5, 5, 5, 5, 5, 5), 7, 127);
        spoiltBy("all ayes, quorum 0", votes(0, 5, 5, 5, 5, 5, 5, 5), 7, 127);
        spoiltBy("all ayes, quorum 2", votes(2, 5, 5, 5, 5, 5, 5, 5), 6, 63);
        spoiltBy("all ayes, quorum 6", votes(6, 5, 5, 5, 5, 5, 5, 5), 2, 3);
        spoiltBy("all ayes, quorum 7", votes(7, 5, 5, 5, 5, 5, 5, 5), 1, 1);
    }

    private static void spoiltByQuorum() {
        says("(were it MOVED; CLOCK aside; no QUORUM: not CARRIED); the lowest as bits.");
        spoiltBy("one below quorum", votes(4, 9, 9, 9), 0, 0);
        spoiltBy("just quorum: the lowest, a no", votes(3, 0, 9, 9), 1, 1);
        spoiltBy("one above quorum: two, or one aye", votes(3, 0, 0, 9, 9, 9), 1, 4);
        spoiltBy("just above quorum: two noes, or one aye", votes(4, 0, 0, 9, 9, 9), 1, 4);
        spoiltBy("two above quorum: three ayes or three", votes(3, 0, 9, 9, 9, 9), 3, 7);
        spoiltBy("the same, but a no that stays", votes(2, 0, 9, 9, 9, 9), 3, 14);
        DarkCommittee x = votes(1, 0, 9, 9, 9);
        x.fly(1, -1);
        spoiltBy("of those sitting", x, 1, 4);
        inForce(x, "bars if bird = 0");
        spoiltBy("a no that withdraws", x, 2, 12);
        DarkCommittee y = votes(1, 9, 9);
        inForce(y, "takes 9; sways 0 if clock > 0");
        y.matter(9, 1);
        y.favour(0, 1, 9);
        y.favour(1, 1, 9);
        spoiltBy("it lies: as if it were moved", y, 2, 3);
        y.move(0, 0);
        spoiltBy("it is moved", y, 2, 3);
        y.divide(0);
        y.force(-1);
        spoiltBy("it is carried: as if it were moved", y, 2, 3);
        y.force(0);
        spoiltBy("clock as it is now for its law", y, 0, 0);
        due("not moved", y.at(1, 2), 0);
    }

    private static void clockAside() {
        says("(were it MOVED; CLOCK aside; no QUORUM: not CARRIED); the lowest as bits.");
        int[] nine = {9, 1};
        DarkCommittee x = moved(nine, nine, nine, nine, nine, nine);
        for (int m = 0; m < 5; m++) {
            x.divide(m);
        }
        due("it can't be divided on", x.at(5, 6), 0);
        due("spoilt all the same", x.spoilt(5, 0) * 10 + x.spoilt(5, 1), 37);
        due("carried all the same", x.come(5, 0) + x.come(5, 1), 0);
    }

    private static void comeTo(String what, DarkCommittee x, int howMany, int who) {
        due(what + ": how many", x.come(0, 0), howMany);
        due(what + ": who", x.come(0, 1), who);
    }

    /** BIRDS with that FAVOUR: those present first, then those AWAY. */
    private static DarkCommittee withAway(int quorum, int present, int... favours) {
        DarkCommittee x = votes(quorum, favours);
        for (int b = present; b < favours.length; b++) {
            x.fly(b, -1);
        }
        return x;
    }

    private static void toCome() {
        says("To COME: the fewest BIRDS that are AWAY, were they in TREE 0, by which it would be CARRIED now");
        comeTo("nobody", votes(1), -1, -1);
        comeTo("carried now", withAway(1, 1, 9), 0, 0);
        comeTo("one comes", withAway(1, 0, 9), 1, 1);
        comeTo("one comes, quorum 0", withAway(0, 0, 9), 1, 1);
        comeTo("one no", withAway(1, 0, 4), -1, -1);
        comeTo("equal, the lowest aye", withAway(1, 2, 9, 0, 0, 9, 9), 1, 8);
        comeTo("one less: two", withAway(1, 1, 0, 0, 9, 9, 9), 2, 4 + 8);
        comeTo("one less, one aye alone", withAway(1, 1, 0, 0, 0, 9), -1, -1);
        comeTo("three less: four", withAway(1, 3, 0, 0, 0, 9, 9, 9, 9), 4, 8 + 16 + 32 + 64);
        comeTo("three less: three are too few", withAway(1, 3, 0, 0, 0, 9, 9, 9), -1, -1);
        comeTo("all seven", withAway(7, 0, 9, 9, 9, 9, 9, 9, 9), 7, 127);
        comeTo("six of seven", withAway(7, 0, 9, 9, 9, 9, 9, 9), -1, -1);
        comeTo("quorum by noes, too", withAway(4, 3, 9, 9, 9, 0), 1, 8);
        comeTo("quorum by the lowest", withAway(5, 3, 9, 9, 9, 0, 0, 9), 2, 8 + 16);
        comeTo("quorum, but ayes more", withAway(4, 2, 9, 0, 0, 9, 9), 2, 8 + 16);
    }

    private static void wereTheyInTreeNought() {
        says("(\"sways\", \"bars\" as they were there.)");
        DarkCommittee x = withAway(1, 1, 0, 0, 0);
        inForce(x, "sways 9 if tree = 0");
        comeTo("ayes in tree 0", x, 2, 6);
        inForce(x, "sways 9 if tree = 0; bars if tree = 0 and bird = 2");
        comeTo("one withdraws there", x, -1, -1);
        inForce(x, "sways 9 if tree < 0 or tree > 4");
        comeTo("ayes elsewhere alone", x, -1, -1);
        inForce(x, "bars if tree < 0; sways 9 if bird > 0");
        comeTo("withdrawn while away alone", x, 2, 6);
        x.fly(1, 0);
        x.fly(2, 0);
        inForce(x, "sways 9 if tree = 0");
        spoiltBy("in tree 0: one more", x, 1, 2);
        due("not carried without", withAway(1, 3, 0, 0, 0).come(0, 0), -1);
    }

    private static void chains() {
        says("A CHAIN from a BIRD to another one: the fewest BIRDS");
        DarkCommittee x = birds(new int[] {0, 2}, new int[] {2, 2}, new int[] {4, 2}, new int[] {6, 2},
                new int[] {8, 2}, new int[] {10, 2}, new int[] {12, 2});
        for (int from = 0; from < 7; from++) {
            for (int to = 0; to < 7; to++) {
                int length = Math.abs(from - to);
                due(from + " to " + to, x.chain(from, to, -1), length);
                due(from + " to " + to + ": -2", x.chain(from, to, -2), -1);
                due(from + " to " + to + ": first", x.chain(from, to, 0),
                        length == 0 ? -1 : from + (to > from ? 1 : -1));
                due(from + " to " + to + ": last", x.chain(from, to, length - 1), length == 0 ? 0 : to);
                due(from + " to " + to + ": no more", x.chain(from, to, length), -1);
            }
        }
    }

    private static void firstChain() {
        says("the last one being the other; the first as a row.");
        DarkCommittee x = birds(new int[] {5, 1}, new int[] {4, 1}, new int[] {6, 1}, new int[] {5, 1},
                new int[] {5, 0}, new int[] {7, 0});
        due("0 to 5: by 2 alone", x.chain(0, 5, -1) * 100 + x.chain(0, 5, 0) * 10 + x.chain(0, 5, 1), 225);
        due("1 to 2: by 0, ahead of 3", x.chain(1, 2, -1) * 100 + x.chain(1, 2, 0) * 10 + x.chain(1, 2, 1), 202);
        due("4 to 0: straight", x.chain(4, 0, -1) * 10 + x.chain(4, 0, 0), 10);
        due("4 to 1: by 0", x.chain(4, 1, -1) * 100 + x.chain(4, 1, 0) * 10 + x.chain(4, 1, 1), 201);
        due("5 to any: nobody hears it", x.chain(5, 2, -1), -1);
        due("none: no first", x.chain(5, 2, 0), -1);
        x.fly(0, -1);
        due("1 to 2: by 3", x.chain(1, 2, -1) * 100 + x.chain(1, 2, 0) * 10 + x.chain(1, 2, 1), 232);
        due("from one away", x.chain(0, 1, -1), -1);
        due("to one away", x.chain(1, 0, -1), -1);
        due("to itself", x.chain(5, 5, -1), 0);
        due("away to itself", x.chain(0, 0, -1), 0);
        due("no bird to itself", x.chain(6, 6, -1), -1);
        due("to no bird", x.chain(0, 6, -1), -1);
        due("from no bird", x.chain(6, 0, -1), -1);
        due("to bird -1", x.chain(0, -1, -1), -1);
        due("from bird -1", x.chain(-1, 0, -1), -1);
        DarkCommittee y = birds(new int[] {5, 1}, new int[] {6, 1}, new int[] {7, 0});
        due("0 to 1: one", y.chain(0, 1, -1) * 10 + y.chain(0, 1, 0), 11);
        due("0 to 1: no second, though 2 hears 1", y.chain(0, 1, 1), -1);
    }

    private static void ears(String what, DarkCommittee x, int howMany, int who) {
        due(what + ": how many", x.ears(0), howMany);
        due(what + ": who", x.ears(1), who);
        due(what + ": what 2", x.ears(2), -1);
    }

    private static void fewestEars() {
        says("(none present: 0); the lowest as bits.");
        ears("no birds", new DarkCommittee(), 0, 0);
        ears("one away", birds(new int[] {-1, 9}), 0, 0);
        ears("one present", birds(new int[] {-1, 9}, new int[] {0, 9}), 1, 2);
        int[] silent = {3, 0};
        int[] alone = {9, 0};
        ears("in one tree", birds(silent, silent, silent), 1, 1);
        ears("in two trees", birds(silent, alone, silent), 2, 3);
        ears("seven in seven trees", birds(new int[] {0, 0}, new int[] {2, 0}, new int[] {4, 0}, new int[] {6, 0},
                new int[] {8, 0}, new int[] {10, 0}, new int[] {12, 0}), 7, 127);
        ears("seven, all heard by all", birds(new int[] {0, 9}, new int[] {1, 9}, new int[] {2, 9},
                new int[] {3, 9}, new int[] {4, 9}, new int[] {5, 9}, new int[] {6, 9}), 1, 1);
        ears("six heard by the last alone", birds(new int[] {0, 9}, new int[] {2, 7}, new int[] {4, 5},
                new int[] {6, 3}, new int[] {8, 1}, new int[] {18, 9}, new int[] {9, 0}), 1, 64);
        ears("one tree too far", birds(new int[] {0, 8}, new int[] {9, 0}), 2, 3);
        ears("just as far: who is heard need not hear", birds(new int[] {0, 9}, new int[] {9, 0}), 1, 2);
        ears("four ways: the lowest", birds(new int[] {0, 3}, new int[] {3, 3}, new int[] {8, 3},
                new int[] {11, 3}), 2, 5);
    }

    private static void loudest(String what, DarkCommittee x, int who, int howMany) {
        due(what + ": who", x.loudest(0), who);
        due(what + ": how many", x.loudest(1), howMany);
        due(what + ": what 2", x.loudest(2), -1);
        due(what + ": what -1", x.loudest(-1), -1);
    }

    private static void loudestBird() {
        says("LOUDEST: the BIRD that most others HEAR; the lowest.");
        loudest("no birds", new DarkCommittee(), -1, -1);
        loudest("one", birds(new int[] {4, 9}), 0, 0);
        loudest("two away", birds(new int[] {-1, 9}, new int[] {-1, 9}), 0, 0);
        loudest("one present: the lowest of none", birds(new int[] {-1, 9}, new int[] {4, 9}), 0, 0);
        loudest("as far as its range", birds(new int[] {0, 3}, new int[] {4, 4}), 1, 1);
        loudest("equal: the lowest", birds(new int[] {0, 4}, new int[] {4, 4}), 0, 1);
        loudest("beyond: none", birds(new int[] {0, 3}, new int[] {4, 3}), 0, 0);
        loudest("the last by six", birds(new int[] {4, 0}, new int[] {5, 0}, new int[] {6, 0}, new int[] {7, 0},
                new int[] {8, 0}, new int[] {9, 0}, new int[] {13, 9}), 6, 6);
    }

    private static void nearestTree() {
        says("(its own, too; from TREE 0, if it is AWAY); the lowest of two.");
        DarkCommittee x = birds(new int[] {10, 0}, new int[] {10, 9, 9});
        x.matter(1, 1);
        due("its own", x.nearest(0, 0), 10);
        due("nobody else is an aye", x.nearest(1, 0), -1);
        x.fly(0, 12);
        due("two below", x.nearest(0, 0), 10);
        x.fly(0, 8);
        due("two above", x.nearest(0, 0), 10);
        x.fly(1, 19);
        due("as far as 19", x.nearest(0, 0), 19);
        x.fly(0, 19);
        x.fly(1, 0);
        due("as far as 0", x.nearest(0, 0), 0);
        x.fly(0, -1);
        due("away: 0", x.nearest(0, 0), 0);
        x.fly(1, 19);
        due("away: 19", x.nearest(0, 0), 19);
        x.fly(1, -1);
        due("none is there", x.nearest(0, 0), -1);
        DarkCommittee y = birds(new int[] {9, 0}, new int[] {7, 0, 9}, new int[] {11, 0, 9},
                new int[] {12, 0, 9});
        y.matter(1, 1);
        due("the lowest of two", y.nearest(0, 0), 7);
        y.fly(1, 6);
        due("the nearer, above", y.nearest(0, 0), 11);
        y.fly(2, -1);
        due("the lowest of two", y.nearest(0, 0), 6);
        y.fly(0, -1);
        due("from 0", y.nearest(0, 0), 6);
        y.fly(1, 0);
        due("0 itself", y.nearest(0, 0), 0);
        DarkCommittee z = birds(new int[] {-1, 1}, new int[] {0, 0, 9});
        z.matter(1, 1);
        due("0, ahead of 1", z.nearest(0, 0), 0);
        z.fly(1, 3);
        due("2, ahead of 3 and 4", z.nearest(0, 0), 2);
        z.fly(0, 1);
        due("2 from 1", z.nearest(0, 0), 2);
        z.fly(0, 5);
        due("4 from 5", z.nearest(0, 0), 4);
        due("it stays away", y.of(0, 0), -1);
    }

    private static void nearestWhereItSits() {
        says("NEAREST: the TREE in which a BIRD, were it there, would be SITTING on a MATTER");
        DarkCommittee x = birds(new int[] {18, 9, 0}, new int[] {19, 9, 9});
        x.matter(1, 1);
        int[] bars = {17, 18, 19};
        int[] nearest = {18, 19, -1};
        for (int i = 0; i < 3; i++) {
            inForce(x, "bars if bird = 0 and not tree > " + bars[i]);
            due("not in " + bars[i] + " or below", x.nearest(0, 0), nearest[i]);
        }
        inForce(x, "bars if bird = 0 and tree > 0 or bird = 0 and tree < 0");
        due("in 0 alone: too far to be heard", x.nearest(0, 0), -1);
        x.fly(1, 9);
        due("in 0 alone: just heard", x.nearest(0, 0), 0);
        DarkCommittee y = birds(new int[] {5, 9, 9});
        y.matter(1, 1);
        due("none but itself", y.nearest(0, 0), -1);
        due("no bird 1", y.nearest(1, 0), -1);
        due("no bird -1", y.nearest(-1, 0), -1);
        due("no matter 1", y.nearest(0, 1), -1);
        due("no matter -1", y.nearest(0, -1), -1);
    }

    private static void itCanBe() {
        says("IT CAN BE: MATTERS on which all that was HEARD were so.");
        due("no matters", new DarkCommittee().canBe(), 0);
        DarkCommittee x = birds(new int[] {4, 9, 9, 9, 4}, new int[] {4, 9, 9, 4, 4}, new int[] {-1, 9, 9, 9, 9});
        for (int m = 0; m < 4; m++) {
            x.matter(1, 1);
        }
        due("nothing was heard: all", x.canBe(), 15);
        for (int ayes = 0; ayes <= 3; ayes++) {
            x.forget();
            x.heard(ayes);
            due("ayes " + ayes, x.canBe(), new int[] {12, 2, 1, 0}[ayes]);
            for (int i = 1; i < 6; i++) {
                x.heard(ayes);
            }
            due("six times ayes " + ayes, x.canBe(), new int[] {12, 2, 1, 0}[ayes]);
        }
        x.forget();
        x.heard(0);
        x.heard(1);
        due("two numbers", x.canBe(), 0);
    }

    private static void listens(String what, DarkCommittee x, int who, int left) {
        due(what + ": who", x.listen(0), who);
        due(what + ": how many", x.listen(1), left);
        due(what + ": what 2", x.listen(2), -1);
        due(what + ": what -1", x.listen(-1), -1);
    }

    private static void toListenFor() {
        says("the more of those on which it is an AYE and those on which it is not are as few as can be; the lowest.");
        DarkCommittee x = birds();
        listens("no birds, no matters", x, -1, -1);
        x.matter(1, 1);
        listens("no birds", x, -1, -1);
        x.heard(0);
        listens("no birds", x, -1, -1);
        listens("no matters", birds(new int[] {4, 9}), -1, -1);
        DarkCommittee y = willing(7, 6, 1, 1);
        listens("an aye on all six", y, 0, 6);
        for (int b = 1; b < 7; b++) {
            for (int m = 0; m < b; m++) {
                y.favour(b, m, 4);
            }
        }
        listens("3 halves them", y, 3, 3);
        y.favour(3, 0, 5);
        listens("2, 3 leave four", y, 2, 4);
        y.fly(2, -1);
        listens("away it is an aye on none", y, 3, 4);
        y.heard(7);
        listens("it can be none", y, -1, -1);
    }

    private static void toListenForOneThatWithdraws() {
        says("the more of those on which it is an AYE and those on which it is not are as few as can be; the lowest.");
        DarkCommittee x = willing(7, 6, 1, 1);
        inForce(x, "bars if bird = 4 and matter < 3 or bird = 5 and matter < 2");
        listens("4 withdraws from half of them", x, 4, 3);
        x.fly(4, -1);
        listens("5 withdraws from a third", x, 5, 4);
        x.heard(6);
        listens("of those left: an aye on all or none", x, 0, 4);
    }

    private static void compared() {
        says("COMPARED: how many AYES there are on a MATTER by a LAW in place of that in FORCE (NONE: none).");
        DarkCommittee x = willing(7, 2, 1, 1);
        for (int b = 0; b < 4; b++) {
            x.favour(b, 1, 4);
        }
        for (int l = 0; l < 6; l++) {
            law(x, "sways 9 if bird < " + l + "; bars if bird > " + (l + 3));
        }
        x.force(2);
        int[] ayes = {0, 2, 4, 6, 7, 7};
        for (int l = 0; l < 6; l++) {
            due("law " + l + " on 0", x.compare(l, 0), Math.min(7, l + 4));
            due("law " + l + " on 1", x.compare(l, 1), ayes[l]);
        }
        due("none on 0", x.compare(-1, 0), 7);
        due("none on 1", x.compare(-1, 1), 3);
        due("no law 6", x.compare(6, 0), -1);
        due("no law -2", x.compare(-2, 0), -1);
        due("no matter 2", x.compare(0, 2), -1);
        due("no matter -1", x.compare(0, -1), -1);
        due("2 is in force still", x.count(13) * 10 + Integer.bitCount(x.at(0, 5)), 26);
    }
}
