/** The promises' own sentences that name a bound or an empty, full, refused case, beside those of "Terms". */
public final class BoundsOfPromisesTest extends Copse {
    private BoundsOfPromisesTest() {
    }

    public static void main(String[] args) throws IllegalAccessException {
        runAll(BoundsOfPromisesTest.class);
    }

    private static void promise1NewObject() {
        says("`DarkCommittee()`: A copse without birds.");
        DarkCommittee x = fresh();
        int[] counts = {0, 0, 0, 0, 0, 0, 0, 0, 0, 0, 0, 0, 0, -1, 0, 1, 0, 1};
        for (int what = 0; what < counts.length; what++) {
            due("count " + what, x.count(what), counts[what]);
        }
        due("status", x.status(), 0);
        due("fault", x.fault(), -1);
        due("stopped", x.stopped(), -1);
        due("cats", x.cats(), 0);
        due("of", x.of(0, 0) + x.of(0, 3) + x.of(0, 9), -3);
        due("at", x.at(0, 0) + x.at(0, 2), -2);
        due("richest", x.richest(-1) * 10 + x.richest(0), -1);
        due("byClock", x.byClock(0) + x.byClock(48), 0);
        due("ears", x.ears(0) + x.ears(1), 0);
        due("loudest", x.loudest(0) + x.loudest(1), -2);
        due("canBe", x.canBe(), 0);
        due("listen", x.listen(0) + x.listen(1), -2);
        due("forget", x.forget(), 0);
        due("few", x.few(1, 1), 900000000000L);
        due("drawn", x.drawn(0, 0) + x.drawn(0, 1) + x.drawn(0, 2) + x.drawn(0, 3), -4);
        due("pass", x.pass(), 0);
        due("none knows of another object", fresh().count(14), 0);
    }

    private static void promise2Bird() {
        says("`int bird(int tree, int range)`: A BIRD in a TREE (NONE: AWAY), with no FAVOUR: its number. -1; -5.");
        DarkCommittee x = fresh();
        x.bird(-1, 9);
        due("away", x.of(0, 0), -1);
        due("none is present", x.count(1), 0);
        for (int m = 0; m < 6; m++) {
            due("no favour", x.of(0, 3 + m), 0);
            x.matter(1, 1);
            due("swayed by none", x.of(0, 9 + m), 0);
        }
    }

    private static void promise3Favour() {
        says("FAVOUR of a BIRD for a MATTER 0 .. 5 (there or not): what it was. -1; -2.");
        DarkCommittee x = birds(new int[] {4, 1}, new int[] {4, 1});
        refused("matter -1", x, x.favour(0, -1, 9), -1);
        refused("matter 6", x, x.favour(0, 6, 9), -1);
        refused("n -1", x, x.favour(0, 0, -1), -1);
        refused("n 10", x, x.favour(0, 0, 10), -1);
        refused("bird -1", x, x.favour(-1, 0, 9), -2);
        refused("bird 2", x, x.favour(2, 0, 9), -2);
        for (int m = 0; m < 6; m++) {
            due("it was none", x.favour(1, m, 9 - m), 0);
            due("it was", x.favour(1, m, 4 + m), 9 - m);
            due("no matter yet", x.of(1, 9 + m), -1);
        }
        for (int m = 0; m < 6; m++) {
            x.matter(1, 1);
            due("swayed, once there", x.of(1, 9 + m), 4 + m);
            due("the other is not", x.of(0, 9 + m), 0);
        }
    }

    private static void promise4Of() {
        says("SWAYED on it (9 + m; NONE: no such MATTER), 0 it WITHDRAWS or is AWAY, 1 it is a NO, 2 an AYE (15 + m;");
        for (int matters = 0; matters <= 6; matters++) {
            DarkCommittee x = birds(new int[] {4, 7, 1, 2, 4, 5, 6, 9});
            for (int m = 0; m < matters; m++) {
                x.matter(1, 1);
            }
            int[] favours = {1, 2, 4, 5, 6, 9};
            for (int m = 0; m < 6; m++) {
                due("favour, there or not", x.of(0, 3 + m), favours[m]);
                due("swayed on " + m + " of " + matters, x.of(0, 9 + m), m < matters ? favours[m] : -1);
                due("its vote on " + m + " of " + matters, x.of(0, 15 + m), m >= matters ? -1 : m < 3 ? 1 : 2);
            }
            due("what 21", x.of(0, 21), -1);
            due("what -1", x.of(0, -1), -1);
            due("no bird 1", x.of(1, 0), -1);
        }
    }

    private static void promise5Matter() {
        says("`int matter(int clauses, int rich)`: A MATTER: its number. -1; -5.");
        DarkCommittee x = birds(new int[] {4, 9, 9, 9, 9, 9, 9, 9}, new int[] {4, 9, 9, 9, 9, 9, 9, 9});
        for (int m = 0; m < 6; m++) {
            refused("clauses 0", x, x.matter(0, 0), -1);
            refused("clauses 10", x, x.matter(10, 0), -1);
            refused("rich -1", x, x.matter(1, -1), -1);
            refused("rich 10", x, x.matter(1, 10), -1);
            due("its number", x.matter(9 - m, m), m);
            due("it lies", x.at(m, 2), 0);
            due("clauses, rich", x.at(m, 0) * 10 + x.at(m, 1), (9 - m) * 10 + m);
            due("it takes", x.at(m, 3), 9 - m);
            due("moved", x.move(m, 0), 1);
        }
        refused("no room", x, x.matter(1, 1), -5);
        for (int m = 0; m < 6; m++) {
            due("all are moved", x.at(m, 2), 1);
        }
    }

    private static void promise6EachNumber() {
        says("Of a MATTER CLAUSES (what 0), RICH (1), 0 it LIES, 1 MOVED, 2 CARRIED, 3 LOST (2), what it TAKES (3),");
        DarkCommittee x = birds(new int[] {4, 9, 9}, new int[] {4, 9, 9}, new int[] {4, 9, 0},
                new int[] {-1, 9, 9});
        x.matter(6, 7);
        inForce(x, "takes 2; bars if bird = 1 and mood = 1");
        x.terms(2, 1);
        int[] want = {6, 7, 0, 2, 5, 1, 0};
        for (int what = 0; what < 7; what++) {
            due("what " + what, x.at(0, what), want[what]);
            due("no matter: what " + what, x.at(1, what) + x.at(-1, what), -2);
        }
        x.terms(2, 0);
        due("sitting, ayes", x.at(0, 4) * 10 + x.at(0, 5), 73);
        due("what 7", x.at(0, 7), -1);
        due("what -1", x.at(0, -1), -1);
    }

    private static void promise6At() {
        says("whether a DIVISION can be (6: 1, 0; 0, if it is not MOVED). NONE.");
        DarkCommittee x = willing(3, 2, 4, 5);
        due("what -1", x.at(0, -1), -1);
        due("what 7", x.at(0, 7), -1);
        due("no matter 2", x.at(2, 6), -1);
        due("it lies", x.at(0, 6), 0);
        x.move(0, 0);
        due("moved", x.at(0, 6), 1);
        due("the other lies", x.at(1, 6), 0);
        due("asked on paper", x.at(0, 2) * 100 + x.count(3), 100);
        due("asked again", x.at(0, 6), 1);
        x.divide(0);
        due("carried", x.at(0, 6), 0);
        x.move(1, 0);
        for (int b = 0; b < 3; b++) {
            x.favour(b, 1, 0);
        }
        due("to be lost, but it can be", x.at(1, 6), 1);
        x.divide(1);
        due("lost", x.at(1, 6), 0);
    }

    private static void promise8Feed() {
        says("`int feed(int a, int b, int c, int d, int e)`: Twenty bytes come behind the TAPE");
        for (int length = 0; length <= 400; length++) {
            DarkCommittee x = fresh();
            for (int fed = 20; fed <= 400; fed += 20) {
                due("how many it has", x.feed(0, 0, 0, 0, 0), fed);
            }
            due("a 401st", x.feed(0, 0, 0, 0, 0), -1);
            x.end(length);
            due("behind " + length, x.feed(0, 0, 0, 0, 0), length <= 380 ? length + 20 : -1);
            due("then", x.count(7), length <= 380 ? length + 20 : length);
            due("no refusal", x.status(), 0);
        }
    }

    private static void promise8BytesInOrder() {
        says("four of each number, the highest first: how many it has.");
        DarkCommittee x = fresh();
        x.feed(0x13090807, 0x06050403, 0x02010009, 0x08070605, 0x04030201);
        due("the first", x.row(), 2);
        int[][] birds = {{19, 9, 8, 7, 6, 5, 4, 3}, {2, 1, 0, 9, 8, 7, 6, 5}};
        for (int b = 0; b < 2; b++) {
            for (int i = 0; i < 8; i++) {
                due("byte " + i + " of " + b, x.of(b, i < 2 ? i : i + 1), birds[b][i]);
            }
        }
        x.feed(0xffffffff, 0x80000000, 0x7fffffff, 0x00ff00ff, 0xff00ff00);
        due("none can be", x.row() * 10 + x.cats(), 3);
    }

    private static void promise9End() {
        says("`int end(int n)`: The TAPE has its first n bytes alone: n. "
                + "NONE, if it has not so many, or n is below 0.");
        DarkCommittee x = fresh();
        due("of an empty one", x.end(0), 0);
        due("one of none", x.end(1), -1);
        due("-1", x.end(-1), -1);
        x.feed(0x62617273, 0x20696620, 0x313d3120, 0x6f722020, 0x323d3220);
        due("21 of 20", x.end(21), -1);
        due("20 of 20", x.end(20), 20);
        due("19 of 20", x.end(19), 19);
        due("20 of 19", x.end(20), -1);
        due("-1 of 19", x.end(-1), -1);
        due("19 still", x.count(7), 19);
        due("11 of 19", x.end(11), 11);
        due("its first 11 alone", x.law(), 0);
        due("none is left", x.end(1), -1);
        x.bird(0, 0);
        x.matter(1, 1);
        String[] texts = {"sways 77", "sways 7+2", "sways 71000", "sways 7 if 1=2", "sways 7;?"};
        for (String text : texts) {
            feed(x, text);
            x.end(7);
            int law = x.law();
            due("what was cut is no part of it: " + text, law, law < 0 ? 0 : x.count(5) - 1);
            x.force(law);
            due("seven alone: " + text, x.of(0, 9), 7);
        }
        feed(x, "passx");
        x.end(4);
        due("a word cut short", x.orders(), 1);
        due("no refusal", x.status(), 0);
        due("nor counted", x.count(8) + x.count(12), 0);
    }

    private static void promise11Cats() {
        says("`int cats()`: How many CATS the latest row() had that was not REFUSED (0 ahead of any).");
        DarkCommittee x = fresh();
        due("ahead of any", x.cats(), 0);
        x.row();
        due("a refused one is none", x.cats(), 0);
        feed(x, 20, 0, 0);
        x.row();
        due("one", x.cats(), 1);
        x.row();
        due("refused: one still", x.cats(), 1);
        feed(x, 0, 0, 0, 0, 0, 0, 0, 0);
        x.row();
        due("none", x.cats(), 0);
        for (int i = 0; i < 20; i++) {
            x.feed(-1, -1, -1, -1, -1);
        }
        x.row();
        due("fifty", x.cats(), 50);
    }

    private static void promise12Law() {
        says("`int law()`: The TAPE, which is empty then, becomes a LAW: its number.");
        DarkCommittee x = fresh();
        for (int l = 0; l < 6; l++) {
            refused("none", x, law(x, "bars;"), -6);
            due("empty then", x.count(7), 0);
            due("its number", law(x, "bars"), l);
            due("empty then", x.count(7), 0);
            due("how many", x.count(5), l + 1);
        }
        refused("a seventh", x, law(x, "bars"), -5);
        due("empty then", x.count(7), 0);
    }

    private static void promise13Orders() {
        says("`int orders()`: ORDERS, the TAPE is empty then: how many were run.");
        DarkCommittee x = fresh();
        due("none", orders(x, "pass if 1=2" + again("; pass if 1=2", 11)), 0);
        due("empty then", x.count(7), 0);
        due("one", orders(x, "pass"), 1);
        due("twelve times twenty", orders(x, "pass times 20" + again("; pass times 20", 11)), 240);
        due("nights", x.count(14), 241);
        due("sixteen are kept", x.count(6), 16);
        refused("one can't be", x, orders(x, "pass; divide 0"), -3);
        due("empty then", x.count(7), 0);
        refused("none is read", x, orders(x, "pass; divide"), -6);
        due("empty then", x.count(7), 0);
        due("nights", x.count(14), 241);
    }

    private static void promise14Fault() {
        says("FAULT of the latest law(), orders() that read a TEXT: its place; NONE without.");
        DarkCommittee x = fresh();
        due("ahead of any", x.fault(), -1);
        x.law();
        due("of nothing, at 0", x.fault(), 0);
        law(x, "bars");
        due("none", x.fault(), -1);
        x.orders();
        due("of nothing, at 0", x.fault(), 0);
        orders(x, "fly 0 to 0");
        due("it can't be, but it is no fault", x.fault(), -1);
        orders(x, "pass pass");
        due("at 5", x.fault(), 5);
        feed(x, "?");
        x.row();
        x.force(9);
        x.image(0);
        x.back(0);
        due("others leave it", x.fault(), 5);
        for (int i = 0; i < 5; i++) {
            due("a law", law(x, "bars"), i + 1);
        }
        orders(x, "pass ?");
        refused("no room", x, law(x, "sways ?"), -5);
        due("it read no text", x.fault(), 5);
    }

    private static void promise15Stopped() {
        says("NONE (that was done, or REFUSED by -6; ahead of any).");
        DarkCommittee x = willing(3, 1, 1, 1);
        due("ahead of any", x.stopped(), -1);
        orders(x, "divide 0");
        due("the first", x.stopped(), 0);
        orders(x, "pass" + again(";pass", 10) + "; divide 0");
        due("the twelfth", x.stopped(), 11);
        law(x, "?");
        law(x, "bars");
        x.divide(0);
        x.image(0);
        x.back(0);
        due("others leave it", x.stopped(), 11);
        x.orders();
        due("of nothing: refused by -6", x.stopped(), -1);
        orders(x, "divide 0");
        due("the first", x.stopped(), 0);
        orders(x, "pass if 1=2");
        due("done, though none was run", x.stopped(), -1);
        orders(x, "divide 0");
        orders(x, "divide 0 ?");
        due("refused by -6", x.stopped(), -1);
        orders(x, "pass; fly 0 to 9; fly 0 to 9 times 2");
        due("the third", x.stopped(), 2);
        orders(x, "pass");
        due("done", x.stopped(), -1);
    }

    private static void promise16Force() {
        says("`int force(int law)`: A LAW is in FORCE (NONE: none): which was. -2. It leaves what can be undone.");
        DarkCommittee x = fresh();
        refused("no law 0", x, x.force(0), -2);
        due("none of none", x.force(-1), -1);
        due("that is no refusal", x.status(), 0);
        law(x, "bars");
        refused("no law 1", x, x.force(1), -2);
        refused("no law -2", x, x.force(-2), -2);
        x.pass();
        due("law 0", x.force(0), -1);
        due("law 0 again", x.force(0), 0);
        due("in force", x.count(13), 0);
        due("none", x.force(-1), 0);
        due("none in force", x.count(13), -1);
        due("undone can be", x.undo(), 3);
    }

    private static void promise17Move() {
        says("`int move(int matter, int bird)`: To MOVE: the lowest BIRD who would SECOND it. -2; -3.");
        for (int aye = 0; aye < 7; aye++) {
            DarkCommittee x = fresh();
            for (int b = 0; b < 7; b++) {
                x.bird(b, 9);
                x.favour(b, 0, b >= aye ? 9 : 0);
            }
            refused("no matter 0", x, x.move(0, 0), -2);
            x.matter(1, 1);
            refused("no bird 7", x, x.move(0, 7), -2);
            refused("no matter -1", x, x.move(-1, 0), -2);
            int by = aye == 0 ? 1 : aye;
            due("seconded from " + aye + " on", x.move(0, 0), by);
            x.undo();
            due("moved by the lowest aye", x.move(0, aye), aye == 6 ? -3 : aye + 1);
            due("it stands", x.at(0, 2), aye == 6 ? 0 : 1);
        }
    }

    private static void promise17NobodyElse() {
        says("`int move(int matter, int bird)`: To MOVE: the lowest BIRD who would SECOND it. -2; -3.");
        DarkCommittee x = birds(new int[] {0, 9, 9});
        x.matter(1, 1);
        inForce(x, "sways 9");
        refused("none is beside it", x, x.move(0, 0), -3);
        due("none is beside it", x.second(0, 0), -1);
        due("nowhere", x.nearest(0, 0), -1);
        DarkCommittee y = willing(7, 1, 1, 1);
        for (int b = 0; b < 7; b++) {
            y.favour(b, 0, 4);
        }
        for (int b = 0; b < 7; b++) {
            refused("none of seven is an aye", y, y.move(0, b), -3);
            due("none of seven is an aye", y.second(0, b), -1);
        }
    }

    private static void promise18Divide() {
        says("`int divide(int matter)`: To DIVIDE: how many AYES. -2; -3.");
        for (int ayes = 0; ayes <= 7; ayes++) {
            DarkCommittee x = willing(7, 2, 1, 1);
            x.move(0, 0);
            for (int b = ayes; b < 7; b++) {
                x.favour(b, 0, 4);
            }
            refused("no matter 2", x, x.divide(2), -2);
            refused("no matter -1", x, x.divide(-1), -2);
            refused("it lies", x, x.divide(1), -3);
            due("ayes " + ayes, x.divide(0), ayes);
            refused("it is done", x, x.divide(0), -3);
            due("it stands", x.at(0, 2), ayes > 3 ? 2 : 3);
        }
    }

    private static void promise19Fly() {
        says("To FLY to a TREE (NONE: AWAY): where it was (0 .. 19; 20: AWAY). -1; -2; -3 it is there.");
        DarkCommittee x = birds(new int[] {-1, 0});
        refused("away", x, x.fly(0, -1), -3);
        for (int tree = 0; tree < 20; tree++) {
            due("from away", x.fly(0, tree), 20);
            refused("it is there", x, x.fly(0, tree), -3);
            due("away", x.fly(0, -1), tree);
            due("back", x.fly(0, tree), 20);
            due("on", x.fly(0, 19 - tree), tree);
            due("away", x.fly(0, -1), 19 - tree);
        }
        refused("tree 20", x, x.fly(0, 20), -1);
        refused("tree -2", x, x.fly(0, -2), -1);
        refused("bird 1", x, x.fly(1, 0), -2);
        refused("bird -1", x, x.fly(-1, 0), -2);
    }

    private static void promise20Pass() {
        says("`int pass()`: A NIGHT: how many MATTERS LIE then. -3.");
        for (int matters = 0; matters <= 6; matters++) {
            for (int carried = 0; carried <= matters; carried++) {
                DarkCommittee x = willing(3, matters, 1, 1);
                for (int m = 0; m < matters; m++) {
                    x.move(m, 0);
                }
                for (int m = 0; m < carried; m++) {
                    x.divide(m);
                }
                due(carried + " carried of " + matters, x.pass(), matters - carried);
                due("again", x.pass(), matters - carried);
                due("two nights", x.count(14), 2);
            }
        }
        DarkCommittee x = willing(3, 6, 1, 1);
        x.terms(0, 999);
        refused("at 999", x, x.pass(), -3);
        x.terms(0, 998);
        due("at 998", x.pass(), 6);
    }

    private static long[] stand(DarkCommittee x) {
        long[] seen = new long[15];
        for (int b = 0; b < 7; b++) {
            seen[b] = x.of(b, 0);
        }
        for (int m = 0; m < 6; m++) {
            seen[7 + m] = x.at(m, 2);
        }
        seen[13] = x.count(3);
        seen[14] = x.count(14);
        return seen;
    }

    private static void promise21AllThatStands() {
        says("(how MATTERS stand, TREES, CLOCK, NIGHT are as they were): 0 .. 3. -3 there is none");
        DarkCommittee x = willing(7, 6, 2, 1);
        x.terms(0, 7);
        String[] acts = {"pass", "move 5 by 6", "fly 6 to 19", "divide 5", "fly 0 to 0-1", "move 0 by 1", "divide 0",
            "pass", "fly 6 to 0", "move 4 by 3", "pass"};
        int[] kinds = {3, 0, 2, 1, 2, 0, 1, 3, 2, 0, 3};
        long[][] ahead = new long[acts.length][];
        for (int i = 0; i < acts.length; i++) {
            ahead[i] = stand(x);
            due(acts[i], orders(x, acts[i]), 1);
        }
        for (int i = acts.length - 1; i >= 0; i--) {
            due("undo " + acts[i], x.undo(), kinds[i]);
            long[] then = stand(x);
            for (int k = 0; k < then.length; k++) {
                due("as ahead of " + acts[i] + ": " + k, then[k], ahead[i][k]);
            }
        }
    }

    private static void promise21Sixteen() {
        says("(by ORDERS, too; 16 are kept) is undone");
        for (int n = 14; n <= 18; n++) {
            DarkCommittee x = fresh();
            x.bird(0, 0);
            for (int i = 1; i <= n; i++) {
                x.fly(0, i);
            }
            int kept = Math.min(n, 16);
            due("kept of " + n, x.count(6), kept);
            for (int i = 1; i <= kept; i++) {
                due("undo", x.undo(), 2);
                due("tree", x.of(0, 0), n - i);
                due("left", x.count(6), kept - i);
            }
            refused("no more of " + n, x, x.undo(), -3);
            due("tree", x.of(0, 0), n - kept);
            DarkCommittee y = fresh();
            y.bird(0, 0);
            due("by orders", orders(y, "fly 0 to done+1 times " + n), n);
            due("kept of " + n, y.count(6), kept);
            for (int i = 1; i <= kept; i++) {
                due("undo", y.undo() * 100 + y.of(0, 0), 200 + n - i);
            }
            refused("no more of " + n, y, y.undo(), -3);
        }
    }

    private static void promise21EachOfFour() {
        says("(how MATTERS stand, TREES, CLOCK, NIGHT are as they were): 0 .. 3. -3 there is none");
        DarkCommittee x = willing(3, 3, 5, 1);
        refused("none", x, x.undo(), -3);
        x.move(0, 0);
        x.move(1, 0);
        x.divide(0);
        x.favour(2, 2, 4);
        x.fly(2, -1);
        x.pass();
        x.heard(3);
        due("pass", x.undo(), 3);
        due("night, clock, moved", x.count(14) * 100 + x.count(3) * 10 + x.at(1, 2), 51);
        due("fly", x.undo(), 2);
        due("tree", x.of(2, 0), 4);
        due("divide", x.undo(), 1);
        due("moved, clock", x.at(0, 2) * 10 + x.count(3), 10);
        due("move", x.undo(), 0);
        due("lies, moved", x.at(1, 2) * 10 + x.at(0, 2), 1);
        due("move", x.undo(), 0);
        due("lies", x.at(0, 2), 0);
        refused("none is left", x, x.undo(), -3);
        due("no more than that: favour, heard", x.of(2, 5) * 10 + x.count(4), 41);
    }

    private static int undoBehind(int call) {
        DarkCommittee x = willing(3, 2, 5, 1);
        x.image(0);
        x.fly(0, 7);
        switch (call) {
            case 0:
                x.bird(1, 1);
                break;
            case 1:
                x.matter(1, 1);
                break;
            case 2:
                x.terms(3, 1);
                break;
            case 3:
                feed(x, 99);
                x.row();
                break;
            case 4:
                x.back(0);
                break;
            case 5:
                x.bird(20, 0);
                break;
            case 6:
                x.matter(0, 0);
                break;
            case 7:
                x.terms(4, 0);
                break;
            case 8:
                x.row();
                break;
            case 9:
                x.back(1);
                break;
            case 10:
                x.favour(0, 0, 1);
                break;
            case 11:
                law(x, "bars");
                break;
            case 12:
                x.force(-1);
                break;
            case 13:
                x.heard(1);
                x.forget();
                break;
            case 14:
                x.mays(1, 60);
                break;
            case 15:
                x.image(1);
                break;
            case 16:
                orders(x, "fly 0 to 8; divide 0");
                break;
            default:
                x.undo();
                x.fly(0, 8);
                break;
        }
        return x.undo();
    }

    private static void promise21BehindOthers() {
        says("(nothing that was ahead of a bird(), matter(), terms(), row(), back() "
                + "that was not REFUSED can be undone)");
        for (int call = 0; call <= 17; call++) {
            due("behind call " + call, undoBehind(call), call < 5 ? -3 : 2);
        }
    }

    private static void promise22Second() {
        says("NONE (nobody; the BIRD is AWAY; no such MATTER, BIRD).");
        DarkCommittee x = birds(new int[] {4, 9, 9}, new int[] {4, 9, 9}, new int[] {-1, 9, 9});
        due("no matter 0", x.second(0, 0), -1);
        x.matter(1, 1);
        due("the lowest other", x.second(0, 0) * 10 + x.second(0, 1), 10);
        due("away", x.second(0, 2), -1);
        due("no bird 3", x.second(0, 3), -1);
        due("no bird -1", x.second(0, -1), -1);
        due("no matter 1", x.second(1, 0), -1);
        due("no matter -1", x.second(-1, 0), -1);
        x.favour(1, 0, 4);
        due("nobody", x.second(0, 0), -1);
        due("but the one for the other", x.second(0, 1), 0);
        x.move(0, 1);
        due("however it stands: moved", x.second(0, 1), 0);
        x.divide(0);
        due("however it stands: lost", x.second(0, 1), 0);
        due("no refusal", x.status(), 0);
    }

    private static void promise25And26What() {
        says("it would not be CARRIED now: 0), who, as bits (1). NONE.");
        DarkCommittee x = willing(3, 2, 1, 1);
        for (int what = -1; what <= 2; what++) {
            due("spoilt " + what, x.spoilt(0, what), what == 0 ? 3 : what == 1 ? 7 : -1);
            due("come " + what, x.come(0, what), what == 0 || what == 1 ? 0 : -1);
        }
        due("no matter 2", x.spoilt(2, 0) + x.come(2, 0), -2);
        due("no matter -1", x.spoilt(-1, 1) + x.come(-1, 1), -2);
        due("matter 1", x.spoilt(1, 0) + x.come(1, 0), 3);
    }

    private static void promise31Heard() {
        says("`int heard(int ayes)`: HEARD: how often there was. -1; -5. It leaves what can be undone.");
        DarkCommittee x = fresh();
        x.pass();
        for (int i = 1; i <= 6; i++) {
            due("so often", x.heard(7), i);
            due("as counted", x.count(4), i);
        }
        refused("a seventh", x, x.heard(7), -5);
        due("undone can be", x.undo(), 3);
    }

    private static void promise32Forget() {
        says("`int forget()`: HEARD is nothing then: how often there was.");
        DarkCommittee x = willing(2, 1, 1, 1);
        due("never", x.forget(), 0);
        for (int n = 1; n <= 6; n++) {
            for (int i = 0; i < n; i++) {
                x.heard(i);
            }
            due("so often", x.forget(), n);
            due("nothing", x.count(4), 0);
            due("nothing again", x.forget(), 0);
            due("all can be", x.canBe(), 1);
        }
        x.heard(8);
        x.forget();
        due("it is no call that status() tells of", x.status(), -1);
    }

    private static void build(DarkCommittee x, int kind) {
        for (int b = 0; b < 7; b++) {
            x.bird(kind == 0 ? 2 * b : 18 - b, kind == 0 ? b + 2 : 9 - b);
            for (int m = 0; m < 6; m++) {
                x.favour(b, m, kind == 0 ? (b + m) % 10 : 9 - (b + m) % 5);
            }
        }
        for (int m = 0; m < 6; m++) {
            x.matter(kind == 0 ? m + 1 : 9 - m, kind == 0 ? m + 2 : 9 - m);
            law(x, "sways " + (m + 4 * kind) + " if mood > 8; takes " + (m + 1 + kind));
            x.heard(kind == 0 ? 3 : m);
        }
        for (int term = 0; term < 4; term++) {
            x.terms(term, kind == 0 ? term + 1 : term + 3);
        }
        x.force(kind == 0 ? 5 : 0);
        for (int m = 0; m < 6; m++) {
            x.move(m, kind == 0 ? m : 5 - m);
        }
        x.divide(5 * kind);
        x.divide(3);
    }

    private static long[] everything(DarkCommittee x) {
        long[] seen = new long[110];
        for (int b = 0; b < 7; b++) {
            for (int what = 0; what < 9; what++) {
                seen[9 * b + what] = x.of(b, what);
            }
        }
        for (int m = 0; m < 6; m++) {
            for (int what = 0; what < 6; what++) {
                seen[63 + 6 * m + what] = x.at(m, what);
            }
        }
        int[] counts = {0, 1, 2, 3, 4, 5, 13, 14, 15, 16, 17};
        for (int i = 0; i < counts.length; i++) {
            seen[99 + i] = x.count(counts[i]);
        }
        return seen;
    }

    private static void promise39And40AllThatIsKept() {
        says("BACK to one all that it keeps is as it was then (IMAGES stay).");
        for (int kind = 0; kind < 2; kind++) {
            DarkCommittee twin = fresh();
            build(twin, kind);
            long[] want = everything(twin);
            DarkCommittee x = fresh();
            x.image(0);
            build(x, kind);
            x.image(1);
            x.back(0);
            due("empty again", x.count(0) + x.count(2) + x.count(5) + x.count(4), 0);
            build(x, 1 - kind);
            due("back", x.back(1), 0);
            long[] seen = everything(x);
            for (int i = 0; i < want.length; i++) {
                due("kind " + kind + ": " + i, seen[i], want[i]);
            }
            int laws = 0;
            for (int l = 0; l < 6; l++) {
                laws += x.force(l) + x.at(0, 3) - twin.force(l) - twin.at(0, 3);
            }
            due("kind " + kind + ": laws", laws, 0);
            due("kind " + kind + ": heard", x.canBe(), twin.canBe());
        }
    }

    private static void promise39Image() {
        says("`int image(int k)`: IMAGE k is kept: 0; -1.");
        DarkCommittee x = fresh();
        refused("-1", x, x.image(-1), -1);
        due("0", x.image(0), 0);
        due("1", x.image(1), 0);
        refused("2", x, x.image(2), -1);
    }

    private static void promise40Back() {
        says("`int back(int k)`: BACK to IMAGE k: 0. -1; -2 it was not kept.");
        DarkCommittee x = fresh();
        refused("-1", x, x.back(-1), -1);
        refused("2", x, x.back(2), -1);
        for (int k = 0; k < 2; k++) {
            refused("not kept", x, x.back(k), -2);
            x.image(2);
            refused("not kept", x, x.back(k), -2);
            x.image(k);
            due("kept", x.back(k), 0);
            due("kept still", x.back(k), 0);
        }
    }

    private static void promise41Count() {
        says("8 .. 12 how many calls were REFUSED by -1, -2, -3, -5, -6 (IMAGES do not keep that)");
        DarkCommittee x = willing(7, 1, 1, 1);
        x.image(0);
        int[] due = new int[5];
        for (int n = 0; n < 15; n++) {
            int by = n % 5;
            due[by]++;
            long told = by == 0 ? x.bird(20, 0) : by == 1 ? x.force(0) : by == 2 ? x.undo()
                    : by == 3 ? x.bird(0, 0) : x.law();
            due("refused", told, new int[] {-1, -2, -3, -5, -6}[by]);
            for (int i = 0; i < 5; i++) {
                due("count " + (8 + i), x.count(8 + i), due[i]);
            }
        }
        x.of(9, 9);
        x.end(-1);
        x.few(0, 0);
        x.nearest(9, 9);
        x.back(0);
        for (int i = 0; i < 5; i++) {
            due("nor answers of NONE, nor back(): count " + (8 + i), x.count(8 + i), 3);
        }
        orders(x, "fly 0 to 20; pass");
        due("orders by -3 alone", x.count(8) * 10 + x.count(10), 34);
    }

    private static void promise41Each() {
        says("0 BIRDS, 1 how many are not AWAY, 2 MATTERS, 3 CLOCK, 4 HEARD, 5 LAWS");
        says("13 the LAW in FORCE, 14 .. 17 TERMS 0 .. 3. NONE for others.");
        DarkCommittee x = fresh();
        due("-1", x.count(-1), -1);
        due("18", x.count(18), -1);
        due("no law", x.count(13), -1);
        inForce(x, "bars");
        due("law 0", x.count(13), 0);
        for (int term = 0; term < 4; term++) {
            x.terms(term, term + 4);
            due("term " + term, x.count(14 + term), term + 4);
        }
        x.bird(-1, 0);
        due("birds, present", x.count(0) * 10 + x.count(1), 10);
        x.fly(0, 0);
        due("birds, present", x.count(0) * 10 + x.count(1), 11);
        x.matter(1, 1);
        due("matters, laws, heard", x.count(2) * 100 + x.count(5) * 10 + x.count(4), 110);
    }

    private static void promise42Status() {
        says("was REFUSED by; 0 if it was not, or ahead of any.");
        DarkCommittee x = fresh();
        due("ahead of any", x.status(), 0);
        refused("bird", x, x.bird(20, 0), -1);
        due("bird", x.bird(0, 0) + x.status(), 0);
        refused("favour", x, x.favour(1, 0, 0), -2);
        due("favour", x.favour(0, 0, 0) + x.status(), 0);
        refused("matter", x, x.matter(0, 0), -1);
        due("matter", x.matter(1, 0) + x.status(), 0);
        refused("terms", x, x.terms(-1, 0), -1);
        due("terms", x.terms(0, 0) + x.status(), 0);
        refused("row", x, x.row(), -6);
        feed(x, 99);
        due("row", x.row() + x.status(), 0);
        refused("law", x, x.law(), -6);
        due("law", law(x, "bars if 1=2") + x.status(), 0);
        refused("orders", x, orders(x, "divide 0"), -3);
        due("orders", orders(x, "pass if 1=2") + x.status(), 0);
        refused("force", x, x.force(1), -2);
        due("force", x.force(-1) + 1 + x.status(), 0);
        refused("move", x, x.move(0, 0), -3);
        x.bird(0, 0);
        x.favour(0, 0, 9);
        due("move", x.move(0, 1) + x.status(), 0);
        refused("divide", x, x.divide(1), -2);
        due("divide", x.divide(0) - 1 + x.status(), 0);
        refused("fly", x, x.fly(0, 0), -3);
        due("fly", x.fly(0, 1) + x.status(), 0);
        refused("image", x, x.image(2), -1);
        due("image", x.image(0) + x.status(), 0);
        refused("back", x, x.back(1), -2);
        due("back", x.back(0) + x.status(), 0);
        refused("undo", x, x.undo(), -3);
        due("pass", x.pass() - 1 + x.status(), 0);
        refused("heard", x, x.heard(8), -1);
        due("undo", x.undo() - 3 + x.status(), 0);
        refused("mays", x, x.mays(0, 0), -1);
        due("heard", x.heard(0) - 1 + x.status(), 0);
        x.terms(0, 999);
        refused("pass", x, x.pass(), -3);
        due("mays", x.mays(0, 1) + x.status(), 0);
    }
}
