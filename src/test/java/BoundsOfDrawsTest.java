/** FEW and IV of the document (MAYS, a ROW, IMAGES): each sentence that names a bound, at it, below it and above it. */
public final class BoundsOfDrawsTest extends Copse {
    private static final long ALL = 1000000000000L;

    private BoundsOfDrawsTest() {
    }

    public static void main(String[] args) throws IllegalAccessException {
        runAll(BoundsOfDrawsTest.class);
    }

    private static void fewBounds() {
        says("`long few(int k, int n)`: FEW, k 1 .. 20, n 0 .. 99. NONE.");
        DarkCommittee x = new DarkCommittee();
        due("k 0", x.few(0, 5), -1);
        due("k 1", x.few(1, 1), 900000000000L);
        due("k 2", x.few(2, 2), 990000000000L);
        due("k 20", x.few(20, 5), ALL);
        due("k 21", x.few(21, 5), -1);
        due("k -1", x.few(-1, 5), -1);
        due("n -1", x.few(1, -1), -1);
        due("n 0", x.few(1, 0), ALL);
        due("n 100", x.few(1, 100), -1);
        due("k 0, n -1", x.few(0, -1), -1);
        due("k 21, n 100", x.few(21, 100), -1);
        due("none of them is refused", x.status(), 0);
        due("k 20, n 99", x.few(20, 99), fewByHand(20, 99, 1));
        due("k 20, n 98", x.few(20, 98), fewByHand(20, 98, 1));
        due("k 19, n 99", x.few(19, 99), fewByHand(19, 99, 1));
        due("k 1, n 99", x.few(1, 99), fewByHand(1, 99, 1));
    }

    private static long fewByHand(int k, int n, int dumb) {
        long[] parts = new long[101];
        parts[0] = ALL;
        for (int bird = 1; bird <= n; bird++) {
            long[] next = new long[101];
            for (int were = 0; were < bird; were++) {
                next[were] += parts[were] * (10 - dumb) / 10;
                next[were + 1] += parts[were] * dumb / 10;
            }
            parts = next;
        }
        long together = 0;
        for (int were = 0; were < k; were++) {
            together += parts[were];
        }
        return together;
    }

    private static void allOrNoneDumb() {
        says("each of which is dumb in DUMB of ten, fewer than k are");
        DarkCommittee x = new DarkCommittee();
        for (int k = 1; k <= 20; k++) {
            x.terms(1, 10);
            due("all of k - 1 are", x.few(k, k - 1), ALL);
            due("all of k are", x.few(k, k), 0);
            due("all of 99 are", x.few(k, 99), 0);
            x.terms(1, 0);
            due("none of k is", x.few(k, k), ALL);
            due("none of 99 is", x.few(k, 99), ALL);
        }
    }

    private static void fewOfEachDumb() {
        says("each of which is dumb in DUMB of ten, fewer than k are");
        for (int dumb = 0; dumb <= 10; dumb++) {
            DarkCommittee x = new DarkCommittee();
            x.terms(1, dumb);
            for (int k = 1; k <= 20; k += 1 + k / 3) {
                for (int n : new int[] {0, 1, k - 1, k, k + 1, 2 * k, 13, 50, 98, 99}) {
                    due("k " + k + ", n " + n + ", dumb " + dumb, x.few(k, n), fewByHand(k, n, dumb));
                }
            }
        }
    }

    private static void bothAreCut() {
        says("each part times the rest by ten and times DUMB by ten (one more), both cut; "
                + "of those below k all together.");
        DarkCommittee x = new DarkCommittee();
        x.terms(1, 3);
        due("7 to the 12th", x.few(1, 12), 13841287201L);
        due("then cut: 9688901040.7", x.few(1, 13), 9688901040L);
        due("then cut: 6782230728.0", x.few(1, 14), 6782230728L);
        due("then cut: 4747561509.6", x.few(1, 15), 4747561509L);
        // one dumb of 13: 12 * 3 * 7 to the 11th is 71183762748, by 7, and 13841287201 by 3, each by ten and cut
        due("one more is cut, too", x.few(2, 13), 9688901040L + 49828633923L + 4152386160L);
    }

    /** The DRAWS of MAYS, done by calls on an object of its own: a call that can't be leaves all as it is. */
    private static void draws(DarkCommittee y, long seed, int n) {
        long s = seed;
        int birds = y.count(0);
        int matters = y.count(2);
        for (int i = 0; i < n && y.count(14) < 999; i++) {
            s = (s * 1103 + 12345) % 1000003;
            int bird = (int) (s % birds);
            s = (s * 1103 + 12345) % 1000003;
            int matter = (int) (s % matters);
            s = (s * 1103 + 12345) % 1000003;
            int tree = (int) (s % 20);
            s = (s * 1103 + 12345) % 1000003;
            int told = s % 4 == 0 ? y.move(matter, bird) : s % 4 == 1 ? y.divide(matter)
                    : s % 4 == 2 ? y.fly(bird, tree) : y.pass();
            due("no other refusal", told == -1 || told == -2 ? 1 : 0, 0);
        }
    }

    private static void maysAre(String what, DarkCommittee x, DarkCommittee y, int seed, int n) {
        int told = x.mays(seed, n);
        draws(y, seed, n);
        int rich = 0;
        for (int m = 0; m < 6; m++) {
            due(what + ": matter " + m, x.drawn(m, 0), y.at(m, 2));
            rich += y.at(m, 2) == 2 ? y.at(m, 1) : 0;
        }
        for (int b = 0; b < 7; b++) {
            due(what + ": bird " + b, x.drawn(b, 1), y.of(b, 0));
        }
        due(what + ": clock", x.drawn(0, 2), y.count(3));
        due(what + ": night", x.drawn(0, 3), y.count(14));
        due(what + ": how rich", told, rich);
        due(what + ": on paper", x.count(3) * 1000 + x.count(6), 0);
    }

    private static DarkCommittee drawing(int birds, int matters, int night) {
        DarkCommittee x = new DarkCommittee();
        for (int b = 0; b < birds; b++) {
            x.bird(8 + b, 9);
            for (int m = 0; m < 6; m++) {
                x.favour(b, m, 9 - (b + m) % 3);
            }
        }
        for (int m = 0; m < matters; m++) {
            x.matter(m + 1, m + 1);
        }
        x.terms(0, night);
        return x;
    }

    private static void seedsAndTimes() {
        says("MAYS with a SEED, n 1 .. 60, on paper: s is the SEED (0 .. 1,000,000)");
        DarkCommittee x = drawing(3, 2, 0);
        refused("seed -1", x, x.mays(-1, 1), -1);
        refused("seed 1,000,001", x, x.mays(1000001, 1), -1);
        refused("n 0", x, x.mays(0, 0), -1);
        refused("n -1", x, x.mays(0, -1), -1);
        refused("n 61", x, x.mays(0, 61), -1);
        due("none was drawn", x.drawn(0, 0), -1);
        int[] seeds = {0, 1, 2, 12345, 999998, 999999, 1000000};
        for (int seed : seeds) {
            for (int n : new int[] {1, 2, 3, 59, 60}) {
                maysAre("seed " + seed + ", n " + n, drawing(7, 6, 0), drawing(7, 6, 0), seed, n);
            }
            maysAre("two birds, one matter, seed " + seed, drawing(2, 1, 0), drawing(2, 1, 0), seed, 60);
            maysAre("one bird, seed " + seed, drawing(1, 3, 0), drawing(1, 3, 0), seed, 60);
        }
    }

    private static DarkCommittee drawingOnMoved() {
        DarkCommittee x = willing(3, 2, 5, 3);
        x.move(1, 0);
        x.terms(0, 1);
        return x;
    }

    private static void eachOfFour() {
        says("each if it can be, at 3 the NIGHT passes.");
        int[] seen = new int[4];
        for (int seed = 0; seed <= 1000000; seed += 20000) {
            long s = seed;
            for (int i = 0; i < 4; i++) {
                s = (s * 1103 + 12345) % 1000003;
            }
            seen[(int) (s % 4)]++;
            maysAre("seed " + seed, drawingOnMoved(), drawingOnMoved(), seed, 1);
            maysAre("on and on, seed " + seed, drawingOnMoved(), drawingOnMoved(), seed, 25);
        }
        for (int kind = 0; kind < 4; kind++) {
            due("some were drawn of " + kind, seen[kind] > 3 ? 1 : 0, 1);
        }
    }

    private static void drawnByAll() {
        says("a DRAW of m: s becomes (s times 1103 and 12345) modulo 1,000,003, it is s modulo m.");
        // 0: 12345, 12345 * 1103 + 12345 = 13628880 is 628841, and so on by hand
        DarkCommittee x = new DarkCommittee();
        x.bird(-1, 0);
        x.matter(1, 1);
        long s = 0;
        long[] drawn = new long[240];
        for (int i = 0; i < 240; i++) {
            s = (s * 1103 + 12345) % 1000003;
            drawn[i] = s;
        }
        due("the first", drawn[0], 12345);
        due("the second", drawn[1], 628841);
        due("the third", drawn[2], (628841L * 1103 + 12345) % 1000003);
        int tree = -1;
        int night = 0;
        for (int i = 0; i < 60; i++) {
            tree = drawn[4 * i + 3] % 4 == 2 ? (int) (drawn[4 * i + 2] % 20) : tree;
            night += drawn[4 * i + 3] % 4 == 3 ? 1 : 0;
            x.mays(0, i + 1);
            due("tree behind " + (i + 1), x.drawn(0, 1), tree);
            due("night behind " + (i + 1), x.drawn(0, 3), night);
        }
    }

    private static void nightsBelowTheLast() {
        says("Each time, as long as NIGHT is below 999, DRAWS of BIRDS, of MATTERS, of 20, of 4, "
                + "whatever comes of them");
        for (int night : new int[] {990, 995, 997, 998, 999}) {
            for (int seed = 0; seed < 8; seed++) {
                maysAre("night " + night + ", seed " + seed, drawing(7, 6, night), drawing(7, 6, night), seed, 60);
            }
        }
        DarkCommittee x = drawing(7, 6, 999);
        due("at 999 nothing is drawn", x.mays(5, 60), 0);
        for (int b = 0; b < 7; b++) {
            due("nobody flew", x.drawn(b, 1), 8 + b);
        }
        due("999", x.drawn(0, 3), 999);
    }

    private static void richAllTogether() {
        says("how RICH all MATTERS are together that are CARRIED behind them.");
        DarkCommittee x = willing(3, 2, 1, 9);
        x.move(0, 0);
        x.divide(0);
        x.terms(0, 999);
        due("carried ahead of them", x.mays(0, 1), 9);
        x.move(1, 0);
        x.divide(1);
        due("both", x.mays(0, 1), 18);
        due("nothing was drawn: as they stand", x.drawn(0, 0) * 10 + x.drawn(1, 0), 22);
        due("clock", x.drawn(0, 2), 2);
    }

    private static void nobodyToDraw() {
        says("-1; -3 there are no BIRDS, or no MATTERS.");
        DarkCommittee x = new DarkCommittee();
        refused("neither", x, x.mays(0, 1), -3);
        x.bird(-1, 0);
        refused("no matters", x, x.mays(0, 1), -3);
        x.matter(1, 9);
        due("one of each", x.mays(0, 1), 0);
        DarkCommittee y = new DarkCommittee();
        y.matter(1, 9);
        refused("no birds", y, y.mays(0, 1), -3);
        y.bird(0, 0);
        due("one of each", y.mays(0, 1), 0);
    }

    private static void drawnOfTheLatest() {
        says("NIGHT (3, k 0). NONE.");
        DarkCommittee x = drawing(2, 2, 7);
        for (int what = -1; what <= 4; what++) {
            due("ahead of any: " + what, x.drawn(0, what), -1);
        }
        x.mays(1000000, 1);
        for (int k = -1; k <= 7; k++) {
            due("a matter: " + k, x.drawn(k, 0) >= 0 ? 1 : 0, k >= 0 && k <= 1 ? 1 : 0);
            due("a bird: " + k, x.drawn(k, 1) >= 0 ? 1 : 0, k >= 0 && k <= 1 ? 1 : 0);
            due("clock: " + k, x.drawn(k, 2) >= 0 ? 1 : 0, k == 0 ? 1 : 0);
            due("night: " + k, x.drawn(k, 3) >= 0 ? 1 : 0, k == 0 ? 1 : 0);
            due("what 4: " + k, x.drawn(k, 4), -1);
            due("what -1: " + k, x.drawn(k, -1), -1);
        }
        x.bird(1, 1);
        x.matter(1, 1);
        due("a later bird", x.drawn(2, 1), -1);
        due("a later matter", x.drawn(2, 0), -1);
        x.mays(1000000, 1);
        due("now it is there", x.drawn(2, 1), 1);
        due("and it, too", x.drawn(2, 0), 0);
    }

    private static void drawnStays() {
        says("`int mays(int seed, int n)`: MAYS, kept as the latest");
        DarkCommittee x = birds(new int[] {3, 1}, new int[] {-1, 1});
        x.image(0);
        x.matter(1, 1);
        x.terms(0, 999);
        x.mays(4, 60);
        x.terms(0, 5);
        x.fly(0, 9);
        x.fly(1, 9);
        due("tree", x.drawn(0, 1), 3);
        due("away", x.drawn(1, 1), -1);
        due("night", x.drawn(0, 3), 999);
        refused("seed -1", x, x.mays(-1, 1), -1);
        due("refused, it leaves the latest", x.drawn(0, 3), 999);
        x.back(0);
        due("no matter then", x.count(2), 0);
        refused("no matters", x, x.mays(1, 1), -3);
        due("images do not keep it", x.drawn(0, 0) * 1000 + x.drawn(0, 3), 999);
        due("nor its trees", x.drawn(0, 1), 3);
    }

    private static DarkCommittee row(int... bytes) {
        DarkCommittee x = new DarkCommittee();
        feed(x, bytes);
        return x;
    }

    private static void came(String what, DarkCommittee x, int birds, int cats) {
        due(what + ": birds", x.row(), birds);
        due(what + ": cats", x.cats(), cats);
        due(what + ": status", x.status(), 0);
        due(what + ": how many", x.count(0), birds);
        due(what + ": the tape is empty", x.count(7), 0);
    }

    private static void rowsThatCanBe() {
        says("TREE, RANGE, FAVOUR for MATTERS 0 .. 5: a BIRD; one that can't be");
        for (int field = 0; field < 8; field++) {
            int most = field == 0 ? 19 : 9;
            for (int value : new int[] {0, 1, most - 1, most, most + 1, 20, 127, 128, 255}) {
                int[] bytes = {1, 2, 3, 4, 5, 6, 7, 8};
                bytes[field] = value;
                DarkCommittee x = row(bytes);
                boolean can = value <= most;
                came("byte " + field + " is " + value, x, can ? 1 : 0, can ? 0 : 1);
                for (int i = 0; i < 8; i++) {
                    int what = i == 0 ? 0 : i == 1 ? 1 : i + 1;
                    due("what " + what + ", byte " + field + " is " + value, x.of(0, what), can ? bytes[i] : -1);
                }
            }
        }
    }

    private static void rowsThatEnd() {
        says("one within which the TAPE ends, one for which there is no room is a CAT: nothing.");
        for (int length = 1; length <= 72; length++) {
            int birds = Math.min(7, length / 8);
            came("bytes " + length, row(new int[length]), birds, (length + 7) / 8 - birds);
        }
        came("bytes 400", row(new int[400]), 7, 43);
        came("bytes 399", row(new int[399]), 7, 43);
        int[] bytes = new int[80];
        bytes[0] = 20;
        bytes[8] = 5;
        bytes[17] = 10;
        bytes[24] = 6;
        bytes[72] = 9;
        DarkCommittee x = row(bytes);
        came("cats take no room", x, 7, 3);
        due("the first that can be", x.of(0, 0), 5);
        due("the next", x.of(1, 0), 6);
        due("the last that has room", x.of(6, 0), 0);
        feed(x, 1, 1, 1, 1, 1, 1, 1, 1);
        due("none", x.row() * 10 + x.cats(), 1);
        due("the seventh stays", x.of(6, 0) + x.of(6, 1) + x.of(6, 3), 0);
    }

    private static void noRow() {
        says("`int row()`: A ROW, the TAPE is empty then: how many BIRDS came. -6 the TAPE is empty.");
        DarkCommittee x = row(20);
        due("no cats yet", x.cats(), 0);
        due("one byte", x.row(), 0);
        due("a cat", x.cats(), 1);
        refused("no byte", x, x.row(), -6);
        due("the cat stays", x.cats(), 1);
        x.feed(0, 0, 0, 0, 0);
        x.end(0);
        refused("no byte left", x, x.row(), -6);
        due("by -6", x.count(12), 2);
    }

    private static void images() {
        says("IMAGES 0, 1 keep all but the TAPE, FAULT, CATS, where ORDERS stopped, what can be undone");
        DarkCommittee x = new DarkCommittee();
        refused("image -1", x, x.image(-1), -1);
        refused("image 2", x, x.image(2), -1);
        refused("back -1", x, x.back(-1), -1);
        refused("back 2", x, x.back(2), -1);
        refused("0 was not kept", x, x.back(0), -2);
        refused("1 was not kept", x, x.back(1), -2);
        due("image 1", x.image(1), 0);
        refused("0 was not kept", x, x.back(0), -2);
        due("back to 1", x.back(1), 0);
        x.terms(2, 3);
        due("image 0", x.image(0), 0);
        due("back to 1", x.back(1), 0);
        due("mood 0", x.count(16), 0);
        due("back to 0", x.back(0), 0);
        due("mood 3", x.count(16), 3);
        due("image 1 anew", x.image(1), 0);
        x.terms(2, 4);
        due("back to 1", x.back(1), 0);
        due("mood 3", x.count(16), 3);
    }

    private static void imagesAreNotAll() {
        says("IMAGES 0, 1 keep all but the TAPE, FAULT, CATS, where ORDERS stopped, what can be undone");
        DarkCommittee x = willing(3, 2, 2, 2);
        x.image(0);
        due("it can't be undone by image alone", x.count(6), 0);
        feed(x, 99, 0);
        x.row();
        orders(x, "pass; divide 0");
        law(x, "bars if");
        x.fly(0, 5);
        x.image(1);
        due("kept and it can be undone still", x.count(6), 1);
        feed(x, "bars");
        x.terms(3, 3);
        int refusals = x.count(10) * 10 + x.count(12);
        due("back", x.back(0), 0);
        due("tape", x.count(7), 4);
        due("fault", x.fault(), 7);
        due("cats", x.cats(), 1);
        due("stopped", x.stopped(), 1);
        due("refusals", x.count(10) * 10 + x.count(12), refusals);
        refused("nothing can be undone", x, x.undo(), -3);
        due("tree", x.of(0, 0), 4);
        due("back to the other", x.back(1), 0);
        due("tree", x.of(0, 0), 5);
        refused("nothing can be undone there, too", x, x.undo(), -3);
        due("the tape is a law", x.law(), 0);
        due("quorum", x.count(17), 1);
    }
}
