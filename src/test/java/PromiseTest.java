/** Each promise of the document by hand: ordinary inputs, the edges that it names, wrong inputs. */
public final class PromiseTest extends Copse {
    private PromiseTest() {
    }

    /** BIRDS in one TREE, heard everywhere near, all with the FAVOUR told for MATTER 0 (5 CLAUSES, RICH 4). */
    private static DarkCommittee together(int... favours) {
        DarkCommittee x = fresh();
        for (int b = 0; b < favours.length; b++) {
            x.bird(4, 5);
            x.favour(b, 0, favours[b]);
        }
        x.matter(5, 4);
        return x;
    }

    /** Five BIRDS who carry whatever is moved. */
    private static DarkCommittee willing(int matters, int clauses, int rich) {
        DarkCommittee x = fresh();
        for (int b = 0; b < 5; b++) {
            x.bird(4, 5);
            for (int m = 0; m < 6; m++) {
                x.favour(b, m, 9);
            }
        }
        for (int m = 0; m < matters; m++) {
            x.matter(clauses, rich);
        }
        return x;
    }

    public static void main(String[] args) throws IllegalAccessException {
        runAll(PromiseTest.class);
    }

    private static void promise1NewObject() {
        says("`DarkCommittee()`");
        DarkCommittee x = fresh();
        int[] counts = {0, 0, 0, 0, 0, 0, 0, 0, 0, 0, 0, 0, 0, -1, 0, 1, 0, 1};
        for (int what = 0; what < counts.length; what++) {
            due("new: count " + what, x.count(what), counts[what]);
        }
        due("new: status", x.status(), 0);
        due("new: fault", x.fault(), -1);
        due("new: stopped", x.stopped(), -1);
        due("new: cats", x.cats(), 0);
        due("new: canBe", x.canBe(), 0);
        due("new: drawn", x.drawn(0, 2), -1);
        due("NONE", DarkCommittee.NONE, -1);
    }

    private static void promise2Bird() {
        says("`int bird(int tree, int range)`");
        DarkCommittee x = fresh();
        due("bird", x.bird(19, 9), 0);
        due("bird away", x.bird(-1, 0), 1);
        due("bird at 0", x.bird(0, 0), 2);
        due("its tree", x.of(0, 0), 19);
        due("its range", x.of(0, 1), 9);
        due("away", x.of(1, 0), -1);
        due("no favour", x.of(0, 3), 0);
        refused("tree 20", x, x.bird(20, 0), -1);
        refused("tree -2", x, x.bird(-2, 0), -1);
        refused("range 10", x, x.bird(0, 10), -1);
        refused("range -1", x, x.bird(0, -1), -1);
        for (int b = 3; b < 7; b++) {
            due("bird " + b, x.bird(b, b), b);
        }
        refused("an eighth bird", x, x.bird(0, 0), -5);
        refused("an eighth that can't be", x, x.bird(20, 0), -1);
        due("seven birds", x.count(0), 7);
    }

    private static void promise3Favour() {
        says("`int favour(int bird, int matter, int n)`");
        DarkCommittee x = fresh();
        x.bird(0, 0);
        due("favour was", x.favour(0, 5, 9), 0);
        due("favour was then", x.favour(0, 5, 3), 9);
        due("favour is", x.of(0, 8), 3);
        due("for another", x.of(0, 7), 0);
        refused("matter 6", x, x.favour(0, 6, 0), -1);
        refused("matter -1", x, x.favour(0, -1, 0), -1);
        refused("n 10", x, x.favour(0, 0, 10), -1);
        refused("n -1", x, x.favour(9, 0, -1), -1);
        refused("no bird 1", x, x.favour(1, 0, 0), -2);
        refused("no bird -1", x, x.favour(-1, 0, 0), -2);
        x.fly(0, 3);
        x.favour(0, 0, 4);
        due("favour leaves what can be undone", x.undo(), 2);
        due("undo leaves favour", x.of(0, 3), 4);
    }

    private static void promise4Of() {
        says("`int of(int bird, int what)`");
        DarkCommittee x = fresh();
        x.bird(5, 2);
        x.bird(7, 1);
        x.bird(-1, 9);
        x.bird(6, 0);
        x.matter(1, 1);
        x.favour(0, 0, 5);
        x.favour(1, 0, 4);
        x.favour(2, 0, 8);
        due("0 hears nobody: 1 is 2 away with range 1, 3 is 1 away with 0", x.of(0, 2), 0);
        due("1 hears 0", x.of(1, 2), 1);
        due("3 hears 0 and 1", x.of(3, 2), 3);
        due("away hears none", x.of(2, 2), 0);
        due("swayed away", x.of(2, 9), 8);
        due("swayed", x.of(0, 9), 5);
        due("5 is an aye", x.of(0, 15), 2);
        due("4 is a no", x.of(1, 15), 1);
        due("away is out", x.of(2, 15), 0);
        due("no matter 1", x.of(0, 10), -1);
        due("no matter 1 to vote on", x.of(0, 16), -1);
        due("no matter 5", x.of(0, 20), -1);
        due("what 21", x.of(0, 21), -1);
        due("what -1", x.of(0, -1), -1);
        due("what most", x.of(0, Integer.MAX_VALUE), -1);
        due("no bird", x.of(4, 1), -1);
        due("bird least", x.of(Integer.MIN_VALUE, 1), -1);
        due("none of them is refused", x.status(), 0);
    }

    private static void promise5Matter() {
        says("`int matter(int clauses, int rich)`");
        DarkCommittee x = fresh();
        due("matter", x.matter(9, 0), 0);
        due("matter", x.matter(1, 9), 1);
        due("clauses", x.at(0, 0), 9);
        due("rich", x.at(1, 1), 9);
        due("lies", x.at(1, 2), 0);
        refused("clauses 0", x, x.matter(0, 0), -1);
        refused("clauses 10", x, x.matter(10, 0), -1);
        refused("rich -1", x, x.matter(1, -1), -1);
        refused("rich 10", x, x.matter(1, 10), -1);
        for (int m = 2; m < 6; m++) {
            due("matter " + m, x.matter(m, m), m);
        }
        refused("a seventh", x, x.matter(1, 1), -5);
        refused("a seventh that can't be", x, x.matter(0, 1), -1);
    }

    private static void promise6At() {
        says("`int at(int matter, int what)`");
        DarkCommittee x = together(5, 4, 9, 0);
        x.fly(3, -1);
        due("clauses", x.at(0, 0), 5);
        due("rich", x.at(0, 1), 4);
        due("lies", x.at(0, 2), 0);
        due("takes", x.at(0, 3), 5);
        due("sitting", x.at(0, 4), 7);
        due("ayes", x.at(0, 5), 5);
        due("no division on what lies", x.at(0, 6), 0);
        x.move(0, 1);
        due("moved", x.at(0, 2), 1);
        due("a division can be", x.at(0, 6), 1);
        x.favour(0, 0, 0);
        x.favour(2, 0, 0);
        due("ayes anew", x.at(0, 5), 0);
        due("of no ayes, too", x.at(0, 6), 1);
        x.fly(1, -1);
        due("sitting anew", x.at(0, 4), 5);
        x.fly(1, 4);
        due("asked alone: still moved", x.at(0, 2), 1);
        due("asked alone: no time", x.count(3), 0);
        x.terms(3, 3);
        due("quorum 3 of 3", x.at(0, 6), 1);
        x.terms(3, 4);
        due("quorum 4 of 3", x.at(0, 6), 0);
        due("what 7", x.at(0, 7), -1);
        due("what -1", x.at(0, -1), -1);
        due("no matter", x.at(1, 0), -1);
        due("no matter -1", x.at(-1, 0), -1);
    }

    private static void promise7Terms() {
        says("`int terms(int what, int value)`");
        DarkCommittee x = fresh();
        int[] first = {0, 1, 0, 1};
        int[] most = {999, 10, 9, 7};
        for (int what = 0; what < 4; what++) {
            due("term was " + what, x.terms(what, most[what]), first[what]);
            due("term is " + what, x.count(14 + what), most[what]);
            refused("too much of " + what, x, x.terms(what, most[what] + 1), -1);
            refused("below 0 of " + what, x, x.terms(what, -1), -1);
            due("term was then " + what, x.terms(what, 0), most[what]);
        }
        refused("term 4", x, x.terms(4, 0), -1);
        refused("term -1", x, x.terms(-1, 0), -1);
        x.bird(0, 0);
        x.fly(0, 1);
        x.terms(9, 9);
        due("refused, it forgets nothing", x.count(6), 1);
        x.terms(2, 0);
        refused("nothing to undo behind terms", x, x.undo(), -3);
    }

    private static void promise8Feed() {
        says("`int feed(int a, int b, int c, int d, int e)`");
        DarkCommittee x = fresh();
        for (int i = 1; i <= 20; i++) {
            due("fed " + i, x.feed(0x20202020, 0, -1, Integer.MIN_VALUE, 5), 20 * i);
        }
        due("fed too much", x.feed(0, 0, 0, 0, 0), -1);
        due("all stays", x.count(7), 400);
        due("one less", x.end(381), 381);
        due("381 and 20", x.feed(0, 0, 0, 0, 0), -1);
        due("380", x.end(380), 380);
        due("380 and 20", x.feed(0, 0, 0, 0, 0), 400);
        DarkCommittee y = fresh();
        y.feed(0x62617273, 0x20202020, 0x20202020, 0x20202020, 0x20202020);
        due("b a r s, the highest byte first", y.law(), 0);
    }

    private static void promise9End() {
        says("`int end(int n)`");
        DarkCommittee x = fresh();
        due("end of nothing", x.end(0), 0);
        due("end beyond nothing", x.end(1), -1);
        feed(x, "barsif");
        due("six bytes", x.count(7), 6);
        due("end beyond", x.end(7), -1);
        due("end below", x.end(-1), -1);
        due("all still there", x.count(7), 6);
        due("end", x.end(4), 4);
        due("bars alone", x.law(), 0);
        x.feed(0, 0, 0, 0, 0);
        due("end 0", x.end(0), 0);
        due("empty", x.count(7), 0);
    }

    private static void promise10Row() {
        says("`int row()`");
        DarkCommittee x = fresh();
        refused("an empty tape", x, x.row(), -6);
        feed(x, 19, 9, 1, 2, 3, 4, 5, 9, 0, 0, 0, 0, 0, 0, 0, 0);
        due("two birds", x.row(), 2);
        due("the tape is empty", x.count(7), 0);
        due("tree", x.of(0, 0), 19);
        due("range", x.of(0, 1), 9);
        for (int m = 0; m < 6; m++) {
            due("favour " + m, x.of(0, 3 + m), m == 5 ? 9 : m + 1);
        }
        feed(x, 20, 0, 0, 0, 0, 0, 0, 0, 0, 10, 0, 0, 0, 0, 0, 0, 0, 0, 0, 0, 0, 0, 0, 10,
                255, 0, 0, 0, 0, 0, 0, 0, 3, 3, 3, 3, 3, 3, 3, 3, 1, 1, 1, 1, 1, 1, 1);
        x.fly(0, 0);
        due("one between cats", x.row(), 1);
        due("five cats", x.cats(), 5);
        due("nothing to undo behind a row", x.count(6), 0);
        due("the bird between", x.of(2, 8), 3);
        feed(x, 1, 1, 1, 1, 1, 1, 1, 1, 2, 2, 2, 2, 2, 2, 2, 2, 3, 3, 3, 3, 3, 3, 3, 3, 4, 4, 4, 4, 4, 4, 4, 4,
                5, 5, 5, 5, 5, 5, 5, 5, 6, 6, 6, 6, 6, 6, 6, 6);
        due("room for four", x.row(), 4);
        due("two had none", x.cats(), 2);
        due("seven birds", x.count(0), 7);
        DarkCommittee y = fresh();
        y.feed(0x01010101, 0x01010101, 0x01010101, 0x01010101, 0);
        y.end(15);
        due("one that is whole", y.row(), 1);
        due("one that is not", y.cats(), 1);
        y.feed(0x01010101, 0x01010101, 0x01010101, 0x01010101, 0);
        due("two more, but four bytes", y.row(), 2);
        due("four bytes are a cat", y.cats(), 1);
        x.pass();
        feed(x, 99);
        due("a cat alone", x.row(), 0);
        due("a row of cats forgets too", x.count(6), 0);
        due("status", x.status(), 0);
    }

    private static void promise11Cats() {
        says("`int cats()`");
        DarkCommittee x = fresh();
        due("no row yet", x.cats(), 0);
        feed(x, 77, 1, 1);
        x.row();
        due("one cat", x.cats(), 1);
        x.row();
        due("refused, it counts none", x.cats(), 1);
        feed(x, 1, 1, 1, 1, 1, 1, 1, 1);
        x.row();
        due("no cat", x.cats(), 0);
    }

    private static void promise12Law() {
        says("`int law()`");
        DarkCommittee x = fresh();
        due("law", law(x, "sways 5"), 0);
        due("the tape is empty", x.count(7), 0);
        x.bird(0, 0);
        x.fly(0, 1);
        due("law", law(x, "takes 5;bars if bird=1"), 1);
        due("a law leaves what can be undone", x.count(6), 1);
        refused("an empty tape", x, x.law(), -6);
        due("fault at its end", x.fault(), 0);
        refused("blanks", x, law(x, "   "), -6);
        due("fault at their end", x.fault(), 3);
        refused("orders", x, law(x, "pass"), -6);
        due("empty then, too", x.count(7), 0);
        for (int l = 2; l < 6; l++) {
            due("law " + l, law(x, "bars"), l);
        }
        refused("a seventh", x, law(x, "no law"), -5);
        due("not read", x.fault(), -1);
        due("empty then, too", x.count(7), 0);
        due("six laws", x.count(5), 6);
    }

    private static int swayedBy(String law, int mood) {
        DarkCommittee x = fresh();
        x.bird(4, 1);
        x.bird(12, 1);
        x.matter(7, 3);
        x.matter(8, 2);
        x.favour(1, 1, 6);
        x.terms(2, mood);
        x.terms(0, 30);
        inForce(x, law);
        return x.of(1, 10);
    }

    private static void lawsAreAsked() {
        says("\"sways\", \"bars\" are asked of a BIRD and a MATTER");
        due("bird", swayedBy("sways bird", 0), 1);
        due("tree", swayedBy("sways tree - 8", 0), 4);
        due("favour", swayedBy("sways favour+1", 0), 7);
        due("matter", swayedBy("sways matter*3", 0), 3);
        due("clauses", swayedBy("sways clauses", 0), 8);
        due("rich", swayedBy("sways rich", 0), 2);
        due("clock", swayedBy("sways clock+9", 0), 9);
        due("night", swayedBy("sways night/10", 0), 3);
        due("mood", swayedBy("sways mood", 8), 8);
        due("the nearest above", swayedBy("sways 1000", 0), 9);
        due("the nearest below", swayedBy("sways 0-1000", 0), 0);
        due("the last that holds", swayedBy("sways 1;sways 2;sways 3 if 1 = 2", 0), 2);
        due("without: its favour", swayedBy("sways 1 if mood = 1;takes 3;bars", 0), 6);
        due("products first", swayedBy("sways 1+2*3-8/4", 0), 5);
        due("from the left", swayedBy("sways 9-3-2", 0), 4);
        due("from the left too", swayedBy("sways 100/10/2", 0), 5);
        due("brackets", swayedBy("sways [1+1]*[4-2]", 0), 4);
        due("cut towards 0", swayedBy("sways 5+[0-7]/2", 0), 2);
        due("what is left", swayedBy("sways 5+[0-7]%4", 0), 2);
        due("or", swayedBy("sways 1 if 1=2 or 2=2", 0), 1);
        due("and", swayedBy("sways 1 if 1=1 and 2=1", 0), 6);
        due("and binds more than or", swayedBy("sways 1 if 1=1 or 1=1 and 1=2", 0), 1);
        due("brackets of tests", swayedBy("sways 1 if (1=1 or 1=1) and 1=2", 0), 6);
        due("not", swayedBy("sways 1 if not 1=2 and 1=1", 0), 1);
        due("not not", swayedBy("sways 1 if not not 1=2", 0), 6);
        due("not of brackets", swayedBy("sways 1 if not (1=1 and 1=2 or 2=3)", 0), 1);
        due("less", swayedBy("sways 1 if 2<2 or 3<2", 0), 6);
        due("more", swayedBy("sways 1 if 2>2 or 3>2", 0), 1);
        due("blanks or none", swayedBy("  sways3if 1<  2  ", 0), 3);
        DarkCommittee x = together(9, 9);
        inForce(x, "takes tree + bird + favour + 5; bars if bird = 1");
        due("takes: no bird, no tree, no favour", x.at(0, 3), 2);
        due("who withdraws", x.at(0, 4), 1);
        due("none to second", x.second(0, 0), -1);
        due("but for it: one that withdraws moves", x.second(0, 1), 0);
        x.fly(0, -1);
        due("away: tree -1", law(x, "sways 5 + tree"), 1);
        x.force(1);
        due("swayed away", x.of(0, 9), 4);
        inForce(x, "takes 10");
        due("takes 9 at most", x.at(0, 3), 9);
        inForce(x, "takes 3-3");
        due("takes 1 at least", x.at(0, 3), 1);
    }

    private static void brokenSums() {
        says("a SUM, a TEST is BROKEN");
        due("1,000,000,000", swayedBy("sways 1 if 1000*1000*1000 > 0", 0), 1);
        due("beyond it", swayedBy("sways 1 if 1000*1000*1000+1 > 0", 0), 6);
        due("1,000,000,000 below", swayedBy("sways 1 if 0-1000*1000*1000 < 0", 0), 1);
        due("beyond on the way", swayedBy("sways 1 if 1000*1000*1000+1-1 > 0", 0), 6);
        due("beyond it below", swayedBy("sways 1 if 0-1000*1000*1000-1 < 0", 0), 6);
        due("broken by not", swayedBy("sways 1 if not 1/0 = 1", 0), 6);
        due("left over by 0", swayedBy("sways 1%0", 0), 6);
        due("a broken sum does not hold", swayedBy("sways 4;sways 1/[tree-12]", 0), 4);
        due("or asks no more", swayedBy("sways 1 if 1=1 or 1/0=1", 0), 1);
        due("or asks the broken first", swayedBy("sways 1 if 1/0=1 or 1=1", 0), 6);
        due("and asks no more", swayedBy("sways 1 if 1=2 and 1/0=1 or 2=2", 0), 1);
        due("and asks the broken", swayedBy("sways 1 if 1=1 and 1/0=1 or 2=2", 0), 6);
        due("or behind brackets", swayedBy("sways 1 if (1=2 or 1=1) or 1/0=1", 0), 1);
        due("a long row of and", swayedBy("sways 1 if 1=2 and 1/0=1 and 1/0=1", 0), 6);
        due("not of what asks no more", swayedBy("sways 1 if not (1=2 and 1/0=1)", 0), 1);
        DarkCommittee x = together(9, 9);
        inForce(x, "bars if 1/bird = 1");
        due("bars: broken, it does not hold", x.at(0, 4), 1);
        DarkCommittee y = together(9, 9);
        due("orders: a broken if is not run", orders(y, "pass if 1/0=1;pass"), 1);
        due("orders: a broken sum can't be", orders(y, "pass;fly 1/0 to 3"), -3);
    }

    private static int faultOf(String law) {
        DarkCommittee x = fresh();
        law(x, law);
        return x.fault();
    }

    private static int faultOfOrders(String orders) {
        DarkCommittee x = fresh();
        orders(x, orders);
        return x.fault();
    }

    private static void limitsOfTexts() {
        says("FAULT: the first TOKEN that can't go on there");
        due("12 clauses", faultOf("bars" + again(";bars", 11)), -1);
        due("a 13th", faultOf("bars" + again(";bars", 12)), 60);
        due("a 13th, whatever it is", faultOf("bars" + again(";bars", 11) + ";  ?"), 62);
        due("a 13th that ends", faultOf("bars" + again(";bars", 11) + "; "), 61);
        due("50 parts", faultOf("sways 1" + again("+1", 49)), -1);
        due("a 51st", faultOf("sways 1" + again("+1", 50)), 106);
        due("50 parts in all clauses", faultOf("sways 1" + again("+1", 24) + ";sways bird" + again("+1", 24)), -1);
        due("a 51st in the second", faultOf("sways 1" + again("+1", 24) + ";takes 1" + again("+1", 24)
                + " if rich=1"), 115);
        due("the 51st may be a word", faultOf("sways 1" + again("+1", 49) + "+rich"), 106);
        due("8 brackets", faultOf("sways [[[[[[[[1]]]]]]]]"), -1);
        due("a 9th", faultOf("sways [[[[[[[[[1]]]]]]]]]"), 14);
        due("8 of both kinds", faultOf("bars if ((((([[[1]]]=1)))))"), -1);
        due("a 9th of both kinds", faultOf("bars if ((((([[[[1]]]]=1)))))"), 16);
        due("a 9th of tests", faultOf("bars if (((((((((1=1)))))))))"), 16);
        due("8 beside 8", faultOf("sways [[[[[[[[1]]]]]]]]*[[[[[[[[1]]]]]]]]"), -1);
        due("many nots", faultOf("bars if " + again("not ", 90) + "1=1"), -1);
        due("nots without end", faultOf(again("bars if not not ", 1) + again("not ", 90)), 376);
        due("1000", faultOf("sways 1000"), -1);
        due("1001", faultOf("sways 1001"), 6);
        due("a longer number", faultOf("sways 99999999999999999999999"), 6);
        due("zeros ahead", faultOf("sways 00000000000000001000"), -1);
        due("letters behind digits", faultOf("sways 12rich"), 8);
        due("a capital", faultOf("sways Rich"), 6);
        due("a byte beyond 127", faultOf("sways \u00e9"), 6);
        due("a byte of 0", faultOf("sways 1\0"), 7);
        due("longer than a word", faultOf("swayss 1"), 0);
        due("a word goes on to z", faultOf("sways richz"), 6);
        due("a word goes on from a", faultOf("sways richa"), 6);
        due("a number goes on with 9 and 0", faultOf("sways 10 + 109 + 90 + 9"), -1);
        due("shorter than a word", faultOf("sways ric"), 6);
        due("a test where a sum is", faultOf("sways (1)"), 6);
        due("no sign", faultOf("bars if 1 and 2=2"), 10);
        due("two signs", faultOf("bars if 1<2<3"), 11);
        due("a bracket of the other kind", faultOf("sways [1)"), 8);
        due("not behind a sign", faultOf("bars if 1 = not 1"), 12);
        due("two ifs", faultOf("bars if 1=1 if 2=2"), 12);
        due("nothing behind ;", faultOf("bars;"), 5);
        due("nothing between ;", faultOf("bars; ;bars"), 6);
        due("tree B in a law", faultOf("sways tree 1"), 11);
        due("a full tape", faultOf("bars" + again(" ", 396)), -1);
        due("orders: 50 parts, B and times aside", faultOfOrders("fly tree 1" + again("+tree 1", 24)
                + " to 1" + again("+1", 24) + " times 20"), -1);
        due("orders: a 51st", faultOfOrders("fly tree 1" + again("+tree 1", 24)
                + " to 1" + again("+1", 24) + " times 20 if done=1"), 244);
        due("tree 6", faultOfOrders("divide tree 6"), -1);
        due("tree 7", faultOfOrders("divide tree 7"), 12);
        due("tree of a word", faultOfOrders("divide tree done"), 12);
        due("tree of nothing", faultOfOrders("divide tree"), 11);
        due("stands 5", faultOfOrders("divide stands 5"), -1);
        due("stands 6", faultOfOrders("divide stands 6"), 14);
        due("times 20", faultOfOrders("pass times 20"), -1);
        due("times 21", faultOfOrders("pass times 21"), 11);
        due("times 0", faultOfOrders("pass times 0"), 11);
        due("times of a word", faultOfOrders("pass times done"), 11);
        due("times behind if", faultOfOrders("pass if 1=1 times 2"), 12);
        due("by for to", faultOfOrders("fly 1 by 2"), 6);
        due("to for by", faultOfOrders("move 1 to 2"), 7);
        due("a law's word in orders", faultOfOrders("divide rich"), 7);
        due("sways in orders", faultOfOrders("sways 1"), 0);
        due("pass with a sum", faultOfOrders("pass 1"), 5);
    }

    private static void manyTextsOfOne() {
        says("TEXTS are on a TAPE of at most 400 bytes.");
        DarkCommittee x = together(9, 9);
        String one = "fly 0 to [tree 0 + 1 + 0 + 0 + 0 + 0 + 0 + 0] % 20 if (1 = 1 or 2 = 2) and 3 = 3";
        for (int i = 1; i <= 33; i++) {
            due("orders " + i, orders(x, one), 1);
            due("flown on " + i, x.of(0, 0), (4 + i) % 20);
            due("no law " + i, law(x, "sways 1 + 2 + 3 + 4 + 5 +"), -6);
        }
        due("parts are counted anew", law(x, "sways 1" + again("+0", 49)), 0);
        due("and again", law(x, "sways 1" + again("+1", 49)), 1);
    }

    private static void promise13Orders() {
        says("`int orders()`");
        DarkCommittee x = together(9, 9, 0);
        due("orders", orders(x, "move 0 by 0; divide 0; fly 2 to 7; fly 1 to 0-1; pass"), 5);
        due("carried", x.at(0, 2), 2);
        due("flown", x.of(2, 0), 7);
        due("away", x.of(1, 0), -1);
        due("night", x.count(14), 1);
        due("all can be undone", x.count(6), 5);
        due("the tape is empty", x.count(7), 0);
        due("none run", orders(x, "pass if 1=2"), 0);
        due("times", orders(x, "pass times 3"), 3);
        due("each time its if is asked", orders(x, "pass times 20 if night < 7"), 3);
        due("night 7", x.count(14), 7);
        due("done", orders(x, "pass times 4;fly done to done;fly 2 to 3 if done = 4"), -3);
        due("done from 0", orders(x, "pass times 2;fly done to done"), 3);
        due("2 flew to 2", x.of(2, 0), 2);
        due("present", orders(x, "fly 0 to 10+present"), 1);
        due("two are present", x.of(0, 0), 12);
        due("tree", orders(x, "fly 0 to tree 2+5 if tree 1 < 0 and tree 6 < 0 and stands 1 < 0"), 1);
        due("0 flew to 7", x.of(0, 0), 7);
        due("each time its sums", orders(x, "fly 0 to tree 0+1 times 12"), 12);
        due("0 flew on", x.of(0, 0), 19);
        DarkCommittee y = together(9, 9, 0, 9);
        due("latest, clock, stands", orders(y, "fly 3 to 9 if latest < 0;move 0 by 1 if stands 0 = 0;"
                + "divide 0 if stands 0=1;fly 0 to 10+latest if clock = 5;fly 1 to latest if stands 0 = 2"), 5);
        due("three ayes: 13", y.of(0, 0), 13);
        due("and 3", y.of(1, 0), 3);
        refused("a fault", y, orders(y, "pass;pas"), -6);
        refused("an empty tape", y, y.orders(), -6);
        due("not run in part", y.count(14), 0);
        due("empty then, too", y.count(7), 0);
        due("latest is of this text", orders(y, "fly 2 to 6 if latest = 0-1"), 1);
    }

    private static void ordersAreWhole() {
        says("ends it: all is as it was ahead of it.");
        DarkCommittee x = together(9, 9, 0);
        x.terms(0, 998);
        x.fly(0, 3);
        x.fly(0, 4);
        x.move(0, 1);
        refused("night 999 can't pass", x, orders(x, "divide 0;fly 0 to 9;pass times 2"), -3);
        due("its clause", x.stopped(), 2);
        due("still moved", x.at(0, 2), 1);
        due("the clock is back", x.count(3), 0);
        due("the tree is back", x.of(0, 0), 4);
        due("the night is back", x.count(14), 998);
        due("one refusal", x.count(10), 1);
        due("what can be undone is back", x.count(6), 3);
        due("undo the move", x.undo(), 0);
        due("undo a flight", x.undo(), 2);
        due("where it was", x.of(0, 0), 3);
        DarkCommittee y = together(9, 9, 0);
        for (int tree = 5; tree < 14; tree++) {
            y.fly(0, tree);
        }
        due("more than are kept, then one that can't be",
                orders(y, "fly 1 to tree 1+1 times 15;fly 2 to 9;fly 2 to 9"), -3);
        due("nine kept", y.count(6), 9);
        for (int tree = 12; tree >= 4; tree--) {
            y.undo();
            due("back in " + tree, y.of(0, 0), tree);
        }
        due("no more", y.undo(), -3);
        due("no bird", orders(y, "fly 3 to 1"), -3);
        due("no matter", orders(y, "divide 1"), -3);
        due("a tree beyond", orders(y, "fly 0 to 20"), -3);
        due("a tree below", orders(y, "fly 0 to 0-2"), -3);
        due("one that stays", orders(y, "fly 0 to 4"), -3);
    }

    private static void promise14Fault() {
        says("`int fault()`");
        DarkCommittee x = fresh();
        due("none read", x.fault(), -1);
        law(x, "sways x");
        due("of a law", x.fault(), 6);
        orders(x, "pas");
        due("of orders", x.fault(), 0);
        orders(x, "divide 0");
        due("orders that can't be have none", x.fault(), -1);
        law(x, "sways");
        due("of a law at the end", x.fault(), 5);
        law(x, "sways 1   ?");
        due("behind blanks", x.fault(), 10);
        law(x, "bars");
        due("a law without", x.fault(), -1);
        law(x, "sways 1 + ");
        due("the end is behind the blanks", x.fault(), 10);
    }

    private static void promise15Stopped() {
        says("`int stopped()`");
        DarkCommittee x = together(1, 1);
        due("ahead of any", x.stopped(), -1);
        orders(x, "pass;pass times 2;fly 0 to 4;pass");
        due("the third", x.stopped(), 2);
        law(x, "bars");
        due("a law leaves it", x.stopped(), 2);
        orders(x, "pass;");
        due("a fault: none", x.stopped(), -1);
        orders(x, "divide 0");
        due("the first", x.stopped(), 0);
        orders(x, "pass");
        due("done: none", x.stopped(), -1);
    }

    private static void promise16Force() {
        says("`int force(int law)`");
        DarkCommittee x = together(1, 1);
        law(x, "sways 7");
        law(x, "sways 8");
        due("no law yet", x.of(0, 9), 1);
        x.pass();
        due("was none", x.force(1), -1);
        due("not refused", x.status(), 0);
        due("in force", x.of(0, 9), 8);
        due("was 1", x.force(0), 1);
        due("count 13", x.count(13), 0);
        refused("no law 2", x, x.force(2), -2);
        refused("no law -2", x, x.force(-2), -2);
        due("still 0", x.of(0, 9), 7);
        due("none again", x.force(-1), 0);
        due("favour again", x.of(0, 9), 1);
        due("it leaves what can be undone", x.count(6), 1);
    }

    private static void promise17Move() {
        says("`int move(int matter, int bird)`");
        DarkCommittee x = together(9, 4, 9, 9);
        due("seconded by 0", x.move(0, 1), 0);
        refused("moved already", x, x.move(0, 1), -3);
        refused("no matter", x, x.move(1, 0), -2);
        refused("no bird", x, x.move(0, 4), -2);
        refused("no bird -1", x, x.move(0, -1), -2);
        x.undo();
        due("not by itself", x.move(0, 0), 2);
        DarkCommittee y = together(9, 4);
        refused("nobody else is an aye", y, y.move(0, 0), -3);
        due("0 seconds 1", y.second(0, 1), 0);
        inForce(y, "bars if bird = 1");
        refused("one that withdraws", y, y.move(0, 1), -3);
        y.force(-1);
        y.fly(0, 9);
        due("as far as 5", y.move(0, 1), 0);
        y.undo();
        y.fly(0, 10);
        refused("too far", y, y.move(0, 1), -3);
        y.fly(1, -1);
        refused("away", y, y.move(0, 1), -3);
        due("lies still", y.at(0, 2), 0);
    }

    private static void promise18Divide() {
        says("`int divide(int matter)`");
        DarkCommittee x = together(9, 9, 4, 0);
        refused("it lies", x, x.divide(0), -3);
        refused("no matter", x, x.divide(1), -2);
        refused("no matter -1", x, x.divide(-1), -2);
        x.move(0, 0);
        due("two ayes", x.divide(0), 2);
        due("of four: lost", x.at(0, 2), 3);
        due("five later", x.count(3), 5);
        refused("no more", x, x.divide(0), -3);
        x.pass();
        x.favour(2, 0, 5);
        x.move(0, 0);
        x.terms(3, 5);
        refused("no quorum", x, x.divide(0), -3);
        x.terms(3, 4);
        due("three ayes", x.divide(0), 3);
        due("carried", x.at(0, 2), 2);
        DarkCommittee y = willing(6, 9, 1);
        for (int m = 0; m < 6; m++) {
            y.move(m, 0);
        }
        for (int m = 0; m < 5; m++) {
            y.divide(m);
        }
        due("45", y.count(3), 45);
        refused("54", y, y.divide(5), -3);
        inForce(y, "takes 4");
        refused("49", y, y.divide(5), -3);
        inForce(y, "takes 48-clock");
        due("48", y.divide(5), 5);
        due("light", y.count(3), 48);
        DarkCommittee z = willing(1, 3, 1);
        z.terms(3, 0);
        inForce(z, "bars if clock < 9");
        due("nobody sits, nobody moves", z.move(0, 0), -3);
        z.force(-1);
        z.move(0, 0);
        z.force(0);
        due("quorum 0: none of none", z.divide(0), 0);
        due("is lost", z.at(0, 2), 3);
    }

    private static void promise19Fly() {
        says("`int fly(int bird, int tree)`");
        DarkCommittee x = fresh();
        x.bird(3, 1);
        x.bird(-1, 1);
        due("from 3", x.fly(0, 19), 3);
        due("to 19", x.of(0, 0), 19);
        due("away from 19", x.fly(0, -1), 19);
        due("from away", x.fly(0, 0), 20);
        refused("there already", x, x.fly(0, 0), -3);
        refused("away already", x, x.fly(1, -1), -3);
        refused("tree 20", x, x.fly(0, 20), -1);
        refused("tree -2", x, x.fly(5, -2), -1);
        refused("no bird", x, x.fly(2, 1), -2);
        refused("no bird -1", x, x.fly(-1, 1), -2);
    }

    private static void promise20Pass() {
        says("`int pass()`");
        DarkCommittee x = willing(4, 2, 3);
        x.favour(0, 3, 0);
        x.move(0, 0);
        x.move(1, 0);
        x.move(2, 0);
        x.divide(0);
        for (int b = 0; b < 5; b++) {
            x.favour(b, 1, 0);
        }
        x.divide(1);
        due("carried, lost, moved, lies", x.at(0, 2) * 1000 + x.at(1, 2) * 100 + x.at(2, 2) * 10 + x.at(3, 2), 2310);
        due("three lie", x.pass(), 3);
        due("carried alone", x.at(0, 2) * 1000 + x.at(1, 2) * 100 + x.at(2, 2) * 10 + x.at(3, 2), 2000);
        due("clock 0", x.count(3), 0);
        due("night 1", x.count(14), 1);
        x.terms(0, 998);
        due("to 999", x.pass(), 3);
        refused("the last", x, x.pass(), -3);
        due("999", x.count(14), 999);
    }

    private static void promise21Undo() {
        says("`int undo()`");
        DarkCommittee x = together(9, 9);
        refused("none", x, x.undo(), -3);
        x.move(0, 0);
        x.divide(0);
        x.fly(0, -1);
        x.pass();
        due("pass", x.undo(), 3);
        due("night", x.count(14), 0);
        due("clock", x.count(3), 5);
        due("fly", x.undo(), 2);
        due("tree", x.of(0, 0), 4);
        due("divide", x.undo(), 1);
        due("moved", x.at(0, 2), 1);
        due("clock 0", x.count(3), 0);
        due("move", x.undo(), 0);
        due("lies", x.at(0, 2), 0);
        refused("none is left", x, x.undo(), -3);
        for (int i = 0; i < 20; i++) {
            x.fly(0, i % 2);
        }
        due("16 are kept", x.count(6), 16);
        x.fly(0, 9);
        x.fly(0, 9);
        for (int i = 0; i < 16; i++) {
            due("undo " + i, x.undo(), 2);
        }
        refused("no 17th", x, x.undo(), -3);
        due("as it was 16 ago", x.of(0, 0), 0);
        x.pass();
        x.bird(77, 0);
        x.matter(77, 0);
        due("refused: kept", x.count(6), 1);
        x.bird(1, 1);
        due("bird forgets", x.undo(), -3);
        x.pass();
        x.matter(1, 1);
        due("matter forgets", x.undo(), -3);
        x.pass();
        x.heard(1);
        x.forget();
        x.image(0);
        x.mays(1, 1);
        due("these forget nothing", x.undo(), 3);
    }

    private static void promise22Second() {
        says("`int second(int matter, int bird)`");
        DarkCommittee x = together(4, 9, 9);
        due("the lowest", x.second(0, 0), 1);
        due("another", x.second(0, 1), 2);
        x.fly(1, 10);
        due("one that hears", x.second(0, 0), 2);
        x.move(0, 0);
        due("however it stands", x.second(0, 0), 2);
        x.fly(2, -1);
        due("nobody", x.second(0, 0), -1);
        due("away itself", x.second(0, 2), -1);
        due("no matter", x.second(1, 0), -1);
        due("no matter -1", x.second(-1, 0), -1);
        due("no bird", x.second(0, 3), -1);
        due("no bird -1", x.second(0, -1), -1);
        due("not refused", x.status(), 0);
    }

    private static void promise23Richest() {
        says("`int richest(int i)`");
        DarkCommittee x = fresh();
        due("none", x.richest(-1), 0);
        due("none", x.richest(0), -1);
        x = willing(6, 9, 5);
        due("none is moved", x.richest(-1), 0);
        for (int m = 0; m < 6; m++) {
            x.move(m, 0);
        }
        due("five fit", x.richest(-1), 25);
        for (int i = 0; i < 5; i++) {
            due("the first row", x.richest(i), i);
        }
        due("no sixth", x.richest(5), -1);
        due("i -2", x.richest(-2), -1);
        due("i most", x.richest(Integer.MAX_VALUE), -1);
        x.divide(2);
        due("four more", x.richest(-1), 20);
        due("without 2", x.richest(2), 3);
        DarkCommittee y = willing(3, 9, 0);
        y.matter(2, 7);
        for (int m = 0; m < 4; m++) {
            y.move(m, 0);
        }
        due("one that is rich", y.richest(-1), 7);
        due("the first by matters: 0 is ahead of 3", y.richest(0), 0);
        due("then 1", y.richest(1), 1);
        due("then 2", y.richest(2), 2);
        due("then 3", y.richest(3), 3);
        due("on paper", y.count(3), 0);
        DarkCommittee z = willing(2, 1, 0);
        z.move(0, 0);
        due("poor ones", z.richest(-1), 0);
        due("the empty row is first", z.richest(0), -1);
        z.terms(3, 6);
        z.matter(1, 9);
        z.move(2, 0);
        due("no quorum", z.richest(-1), 0);
    }

    private static void richestByTheClock() {
        says("(CLOCK going on as they TAKE)");
        DarkCommittee x = willing(3, 3, 4);
        for (int m = 0; m < 3; m++) {
            x.move(m, 0);
        }
        inForce(x, "bars if matter = 0 and clock < 6;takes 9 if matter = 1;sways 0 if matter=2 and clock=0");
        x.terms(3, 1);
        due("0 waits, 2 is no use at 0", x.richest(-1), 12);
        due("first 1", x.richest(0), 1);
        due("then 0", x.richest(1), 0);
        due("then 2", x.richest(2), 2);
        inForce(x, "sways 0 if matter = 1 and clock = 0;sways 0 if matter=0 and clock < 3;sways 0 if matter=2");
        due("the lost pass the time", x.richest(-1), 8);
        due("first 2, that is lost", x.richest(0), 2);
        due("then 0", x.richest(1), 0);
        due("then 1, and no more", x.richest(2), 1);
        due("no fourth", x.richest(3), -1);
    }

    private static void promise24ByClock() {
        says("`int byClock(int c)`");
        DarkCommittee x = willing(6, 9, 5);
        for (int m = 0; m < 6; m++) {
            x.move(m, 0);
        }
        x.divide(1);
        due("nothing by 17", x.byClock(17), 0);
        due("0 by 18", x.byClock(18), 5);
        due("2 by 27", x.byClock(27), 10);
        due("4 by 45", x.byClock(45), 20);
        due("5 can't be", x.byClock(48), 20);
        inForce(x, "takes 3 if matter = 5;sways 0 if matter = 2");
        due("5 is done at 48", x.byClock(48), 20);
        due("lost take time, too", x.byClock(47), 15);
        due("c 0", x.byClock(0), 0);
        due("c 49", x.byClock(49), -1);
        due("c -1", x.byClock(-1), -1);
        due("on paper", x.at(0, 2), 1);
        x.terms(3, 6);
        due("no quorum", x.byClock(48), 0);
        due("no matters", fresh().byClock(48), 0);
    }

    private static void promise25Spoilt() {
        says("`int spoilt(int matter, int what)`");
        DarkCommittee x = together(0, 9, 9, 4, 9);
        due("one of three ayes", x.spoilt(0, 0), 1);
        due("the lowest", x.spoilt(0, 1), 2);
        x.favour(3, 0, 9);
        due("four ayes, one no: three", x.spoilt(0, 0), 3);
        due("the lowest three ayes", x.spoilt(0, 1), 2 + 4 + 8);
        x.terms(3, 4);
        due("by quorum two", x.spoilt(0, 0), 2);
        due("whoever they are", x.spoilt(0, 1), 3);
        x.terms(3, 6);
        due("no quorum", x.spoilt(0, 0), 0);
        due("none has to leave", x.spoilt(0, 1), 0);
        x.terms(3, 0);
        x.favour(0, 0, 9);
        due("quorum 0, all ayes: all", x.spoilt(0, 0), 5);
        x.fly(0, -1);
        due("those sitting", x.spoilt(0, 1), 30);
        due("what 2", x.spoilt(0, 2), -1);
        due("what -1", x.spoilt(0, -1), -1);
        due("no matter", x.spoilt(1, 0), -1);
        due("no matter -1", x.spoilt(-1, 0), -1);
    }

    private static void promise26Come() {
        says("`int come(int matter, int what)`");
        DarkCommittee x = together(9, 0, 0, 9, 9, 9);
        for (int b = 2; b < 6; b++) {
            x.fly(b, -1);
        }
        due("one aye more is enough", x.come(0, 0), 1);
        due("the lowest aye", x.come(0, 1), 8);
        x.terms(3, 4);
        due("four sit: two", x.come(0, 0), 2);
        due("both ayes: 2 of 4 would not do", x.come(0, 1), 8 + 16);
        x.terms(3, 7);
        due("never seven", x.come(0, 0), -1);
        due("none", x.come(0, 1), -1);
        x.terms(3, 1);
        x.favour(1, 0, 5);
        due("carried now", x.come(0, 0), 0);
        due("none has to come", x.come(0, 1), 0);
        x.favour(1, 0, 4);
        inForce(x, "sways 4 if tree = 0 and bird < 5;bars if tree = 0 and bird=5");
        due("as they were there", x.come(0, 0), -1);
        inForce(x, "sways favour if tree = 0;sways 0 if tree < 0");
        due("not as they are", x.come(0, 1), 8);
        due("what 2", x.come(0, 2), -1);
        due("no matter", x.come(1, 0), -1);
        due("no matter -1", x.come(-1, 0), -1);
        due("still away", x.of(3, 0), -1);
    }

    private static void promise27Chain() {
        says("`int chain(int from, int to, int i)`");
        DarkCommittee x = fresh();
        x.bird(0, 3);
        x.bird(3, 4);
        x.bird(2, 5);
        x.bird(7, 0);
        x.bird(-1, 9);
        due("0 is heard by 1 and 2, 3 hears both", x.chain(0, 3, -1), 2);
        due("by 1 first", x.chain(0, 3, 0), 1);
        due("then 3", x.chain(0, 3, 1), 3);
        due("no third", x.chain(0, 3, 2), -1);
        due("i -2", x.chain(0, 3, -2), -1);
        due("straight", x.chain(2, 3, -1), 1);
        due("nobody hears 3", x.chain(3, 0, -1), -1);
        due("to itself", x.chain(1, 1, -1), 0);
        due("to itself: nobody", x.chain(1, 1, 0), -1);
        due("away to itself", x.chain(4, 4, -1), 0);
        due("from away", x.chain(4, 0, -1), -1);
        due("to away", x.chain(0, 4, 0), -1);
        due("no bird", x.chain(0, 5, -1), -1);
        due("no bird -1", x.chain(-1, 0, -1), -1);
        DarkCommittee y = fresh();
        for (int b = 0; b < 7; b++) {
            y.bird(2 * b, 2);
        }
        due("one by one", y.chain(0, 6, -1), 6);
        for (int i = 0; i < 6; i++) {
            due("one by one " + i, y.chain(0, 6, i), i + 1);
        }
    }

    private static void promise28Ears() {
        says("`int ears(int what)`");
        DarkCommittee x = fresh();
        due("none", x.ears(0), 0);
        due("nobody", x.ears(1), 0);
        x.bird(-1, 9);
        due("none present", x.ears(0), 0);
        x.bird(3, 0);
        due("one alone", x.ears(1), 2);
        x.bird(5, 2);
        x.bird(7, 2);
        due("1 is heard by none, 2 hears 3", x.ears(0), 2);
        due("1 and 2, ahead of 1 and 3", x.ears(1), 2 + 4);
        x.fly(1, -1);
        due("each hears the other: the lowest", x.ears(1), 4);
        due("one", x.ears(0), 1);
        due("what 2", x.ears(2), -1);
        due("what -1", x.ears(-1), -1);
    }

    private static void promise29Loudest() {
        says("`int loudest(int what)`");
        DarkCommittee x = fresh();
        due("no birds", x.loudest(0), -1);
        due("no birds", x.loudest(1), -1);
        x.bird(-1, 9);
        due("away", x.loudest(0), 0);
        due("heard by none", x.loudest(1), 0);
        x.bird(3, 1);
        x.bird(5, 2);
        x.bird(7, 2);
        due("2 by two", x.loudest(0), 2);
        due("two", x.loudest(1), 2);
        x.fly(3, 5);
        due("2 and 3 by two each: the lowest", x.loudest(0), 2);
        due("what 2", x.loudest(2), -1);
        due("what -1", x.loudest(-1), -1);
    }

    private static void promise30Nearest() {
        says("`int nearest(int bird, int matter)`");
        DarkCommittee x = fresh();
        x.bird(10, 2);
        x.bird(4, 0);
        x.bird(16, 0);
        x.matter(1, 1);
        due("nobody seconds", x.nearest(0, 0), -1);
        x.favour(2, 0, 9);
        due("two short of 16", x.nearest(0, 0), 14);
        x.favour(1, 0, 9);
        due("as far: the lowest", x.nearest(0, 0), 6);
        x.fly(1, 0);
        x.fly(0, -1);
        due("tree 0", x.nearest(0, 0), 0);
        x.fly(1, 4);
        x.fly(0, 17);
        due("its own", x.nearest(0, 0), 17);
        x.fly(0, -1);
        due("away: from 0", x.nearest(0, 0), 2);
        due("still away", x.of(0, 0), -1);
        inForce(x, "bars if bird = 0 and tree < 6");
        due("where it would sit", x.nearest(0, 0), 6);
        inForce(x, "bars if bird = 0");
        due("nowhere", x.nearest(0, 0), -1);
        due("no bird", x.nearest(3, 0), -1);
        due("no bird -1", x.nearest(-1, 0), -1);
        due("no matter", x.nearest(0, 1), -1);
        due("no matter -1", x.nearest(0, -1), -1);
    }

    private static void promise31Heard() {
        says("`int heard(int ayes)`");
        DarkCommittee x = together(9, 9);
        refused("8", x, x.heard(8), -1);
        refused("-1", x, x.heard(-1), -1);
        x.pass();
        for (int i = 1; i <= 6; i++) {
            due("heard", x.heard(i == 6 ? 7 : 0), i);
        }
        refused("a seventh", x, x.heard(0), -5);
        refused("a seventh that can't be", x, x.heard(8), -1);
        due("six", x.count(4), 6);
        due("it leaves what can be undone", x.count(6), 1);
    }

    private static void promise32Forget() {
        says("`int forget()`");
        DarkCommittee x = together(9, 9);
        due("nothing", x.forget(), 0);
        x.heard(0);
        x.heard(7);
        due("it can be none", x.canBe(), 0);
        due("twice", x.forget(), 2);
        due("none is left", x.count(4), 0);
        due("it can be all again", x.canBe(), 1);
        due("heard anew", x.heard(2), 1);
    }

    private static void promise33CanBe() {
        says("`int canBe()`");
        DarkCommittee x = fresh();
        x.bird(1, 1);
        x.bird(1, 1);
        x.bird(1, 1);
        for (int m = 0; m < 4; m++) {
            x.matter(1, 1);
            for (int b = 0; b < m; b++) {
                x.favour(b, m, 9);
            }
        }
        x.favour(2, 1, 9);
        due("all", x.canBe(), 15);
        x.heard(2);
        due("1 and 2 have two ayes", x.canBe(), 6);
        x.heard(2);
        due("heard twice, it is no more", x.canBe(), 6);
        x.fly(1, -1);
        due("were there a division now: 1 and 3", x.canBe(), 10);
        inForce(x, "bars if bird = 2 and matter = 3");
        due("by the law in force now: 1 alone", x.canBe(), 2);
        x.force(-1);
        x.favour(0, 1, 4);
        due("by favour as it is now: 3 alone", x.canBe(), 8);
        x.matter(1, 1);
        due("a later matter without ayes", x.canBe(), 8);
        x.favour(0, 4, 5);
        x.favour(2, 4, 5);
        due("a later matter with two", x.canBe(), 24);
        x.heard(1);
        due("two and one it can't be at once", x.canBe(), 0);
        x.forget();
        x.heard(1);
        due("one alone: 1 and 2", x.canBe(), 6);
    }

    private static void canBeOfNobody() {
        says("IT CAN BE: MATTERS on which all that was HEARD were so.");
        DarkCommittee x = fresh();
        x.heard(0);
        due("no matters", x.canBe(), 0);
        x.matter(1, 0);
        due("no birds, so no ayes", x.canBe(), 1);
        x.bird(3, 3);
        x.favour(0, 0, 9);
        due("one aye now", x.canBe(), 0);
        x.terms(3, 7);
        x.fly(0, -1);
        due("none again, whatever the quorum", x.canBe(), 1);
        x.undo();
        due("undone: one aye", x.canBe(), 0);
    }

    private static void promise34Listen() {
        says("`int listen(int what)`");
        DarkCommittee x = fresh();
        due("no birds", x.listen(0), -1);
        x.matter(1, 1);
        due("no birds, one matter", x.listen(0), -1);
        x.bird(-1, 0);
        due("away: aye on none", x.listen(1), 1);
        for (int m = 1; m < 4; m++) {
            x.matter(1, 1);
        }
        x.bird(1, 1);
        x.bird(1, 1);
        x.bird(1, 1);
        x.favour(1, 0, 9);
        x.favour(2, 0, 9);
        x.favour(2, 1, 9);
        x.favour(3, 2, 9);
        x.favour(3, 3, 9);
        due("2 and 3 halve them: the lowest", x.listen(0), 2);
        due("two are left", x.listen(1), 2);
        x.heard(2);
        due("0 alone has two", x.listen(0), 0);
        due("one is left", x.listen(1), 1);
        due("what 2", x.listen(2), -1);
        due("what -1", x.listen(-1), -1);
        x.heard(7);
        due("it can be none", x.listen(0), -1);
        due("it can be none", x.listen(1), -1);
    }

    private static void promise35Few() {
        says("`long few(int k, int n)`");
        DarkCommittee x = fresh();
        due("0 of 3", x.few(1, 3), 729000000000L);
        due("below 2 of 3", x.few(2, 3), 972000000000L);
        due("below 3 of 3", x.few(3, 3), 999000000000L);
        due("below 4 of 3", x.few(4, 3), 1000000000000L);
        due("of none", x.few(20, 0), 1000000000000L);
        due("k 0", x.few(0, 3), -1);
        due("k 21", x.few(21, 3), -1);
        due("n -1", x.few(1, -1), -1);
        due("n 100", x.few(1, 100), -1);
        x.terms(1, 10);
        due("all are dumb", x.few(3, 3), 0);
        due("below 4", x.few(4, 3), 1000000000000L);
        x.terms(1, 0);
        due("none is dumb", x.few(1, 99), 1000000000000L);
        x.terms(1, 3);
        long part = 1000000000000L;
        for (int i = 0; i < 99; i++) {
            part = part * 7 / 10;
        }
        due("cut each time", x.few(1, 99), part);
        x.terms(1, 5);
        long none = 1000000000000L;
        long one = 0;
        for (int i = 0; i < 50; i++) {
            one = one * 5 / 10 + none * 5 / 10;
            none = none * 5 / 10;
        }
        due("both cut", x.few(2, 50), none + one);
    }

    private static void promise36Compare() {
        says("`int compare(int law, int matter)`");
        DarkCommittee x = together(9, 4, 0);
        law(x, "sways 9 if bird = 1");
        law(x, "bars if bird = 0");
        x.force(0);
        due("none", x.compare(-1, 0), 1);
        due("that in force", x.compare(0, 0), 2);
        due("another", x.compare(1, 0), 0);
        due("in force still", x.count(13), 0);
        due("no law", x.compare(2, 0), -1);
        due("no law -2", x.compare(-2, 0), -1);
        due("no matter", x.compare(0, 1), -1);
        due("no matter -1", x.compare(0, -1), -1);
    }

    private static void promise37Mays() {
        says("`int mays(int seed, int n)`");
        DarkCommittee x = fresh();
        refused("nobody", x, x.mays(1, 1), -3);
        x.bird(4, 5);
        refused("no matters", x, x.mays(1, 1), -3);
        refused("seed -1", x, x.mays(-1, 1), -1);
        refused("seed beyond", x, x.mays(1000001, 1), -1);
        refused("n 0", x, x.mays(1, 0), -1);
        refused("n 61", x, x.mays(1, 61), -1);
        x.matter(1, 7);
        x.bird(4, 5);
        x.favour(0, 0, 9);
        x.favour(1, 0, 9);
        int most = 0;
        for (int seed = 0; seed < 40; seed++) {
            int rich = x.mays(seed, 60);
            due("seed " + seed, rich, x.drawn(0, 0) == 2 ? 7 : 0);
            most = Math.max(most, rich);
        }
        due("in some it is carried", most, 7);
        due("most seed", x.mays(1000000, 1) >= 0 ? 1 : 0, 1);
        due("on paper", x.at(0, 2) + x.count(3) + x.count(14) + x.count(6), 0);
        // the DRAWS once more, by hand: FLIGHTS and NIGHTS alone always can be, but a FLIGHT to where one is
        long s = 6;
        int tree = 4;
        int night = 0;
        for (int i = 0; i < 60; i++) {
            long[] draws = new long[4];
            for (int d = 0; d < 4; d++) {
                s = (s * 1103 + 12345) % 1000003;
                draws[d] = s;
            }
            if (draws[3] % 4 == 2 && draws[0] % 2 == 0) {
                tree = (int) (draws[2] % 20);
            }
            night += draws[3] % 4 == 3 ? 1 : 0;
        }
        x.mays(6, 60);
        due("where 0 is", x.drawn(0, 1), tree);
        due("which night", x.drawn(0, 3), night);
        x.terms(0, 998);
        x.mays(6, 60);
        due("999 is the last", x.drawn(0, 3), 999);
        x.terms(0, 999);
        x.mays(6, 60);
        due("none is drawn at 999", x.drawn(0, 1), 4);
    }

    private static void promise38Drawn() {
        says("`int drawn(int k, int what)`");
        DarkCommittee x = together(9, 9);
        due("ahead of any", x.drawn(0, 0), -1);
        x.mays(1, 1);
        x.matter(1, 1);
        x.bird(1, 1);
        due("matter 0", x.drawn(0, 0) >= 0 ? 1 : 0, 1);
        due("no matter 1 then", x.drawn(1, 0), -1);
        due("bird 1", x.drawn(1, 1) >= 0 ? 1 : 0, 1);
        due("no bird 2 then", x.drawn(2, 1), -1);
        due("clock, k 1", x.drawn(1, 2), -1);
        due("night, k 1", x.drawn(1, 3), -1);
        due("clock", x.drawn(0, 2) >= 0 ? 1 : 0, 1);
        due("what 4", x.drawn(0, 4), -1);
        due("what -1", x.drawn(0, -1), -1);
        due("k -1", x.drawn(-1, 0), -1);
        int night = x.drawn(0, 3);
        x.mays(1, 61);
        due("refused, it leaves the latest", x.drawn(0, 3), night);
        x.image(0);
        x.mays(6, 60);
        night = x.drawn(0, 3);
        x.back(0);
        due("images do not keep it", x.drawn(0, 3), night);
    }

    private static void promise39Image() {
        says("`int image(int k)`");
        DarkCommittee x = fresh();
        refused("image -1", x, x.image(-1), -1);
        refused("image 2", x, x.image(2), -1);
        due("image 0", x.image(0), 0);
        due("image 1", x.image(1), 0);
        x.pass();
        due("image 1 anew", x.image(1), 0);
        due("it forgets nothing", x.count(6), 1);
        x.back(0);
        due("night 0", x.count(14), 0);
        x.back(1);
        due("night 1", x.count(14), 1);
    }

    private static void promise40Back() {
        says("`int back(int k)`");
        DarkCommittee x = together(9, 9);
        refused("back 2", x, x.back(2), -1);
        refused("back -1", x, x.back(-1), -1);
        refused("not kept", x, x.back(0), -2);
        inForce(x, "sways 8");
        x.heard(2);
        x.terms(2, 4);
        x.move(0, 0);
        x.divide(0);
        x.pass();
        x.image(0);
        x.fly(0, -1);
        x.favour(1, 3, 7);
        x.bird(3, 3);
        x.favour(2, 2, 2);
        x.matter(2, 2);
        x.force(-1);
        law(x, "sways 2");
        x.heard(1);
        x.terms(1, 2);
        x.terms(2, 3);
        x.terms(3, 2);
        x.terms(0, 50);
        x.image(1);
        law(x, "sways ?");
        feed(x, "tape");
        x.pass();
        due("back", x.back(0), 0);
        int[] counts = {2, 2, 1, 0, 1, 1, 0, 4, 2, 1, 0, 0, 1, 0, 1, 1, 4, 1};
        for (int what = 0; what < counts.length; what++) {
            due("as it was: count " + what, x.count(what), counts[what]);
        }
        due("tree", x.of(0, 0), 4);
        due("favour", x.of(1, 6), 0);
        due("carried", x.at(0, 2), 2);
        due("in force", x.of(0, 9), 8);
        due("fault is not kept", x.fault(), 6);
        due("heard", x.canBe(), 1);
        x.end(0);
        inForce(x, "sways 6");
        due("a law in the old one's place", x.of(0, 9), 6);
        due("a bird without favour", x.bird(1, 1) * 10 + x.of(2, 5), 20);
        due("back to the other", x.back(1), 0);
        x.force(1);
        due("its own law", x.of(0, 9), 2);
        due("its own bird", x.of(2, 5), 2);
        due("night", x.count(14), 50);
        due("nothing can be undone", x.undo(), -3);
        due("images stay", x.back(0), 0);
        due("images stay", x.count(0), 2);
        x.bird(5, 9);
        x.matter(9, 9);
        due("another range, clauses, rich", x.of(2, 1) * 100 + x.at(1, 0) * 10 + x.at(1, 1), 999);
        x.back(1);
        due("its own range, clauses, rich", x.of(2, 1) * 100 + x.at(1, 0) * 10 + x.at(1, 1), 322);
    }

    private static void backToWhatWasHeard() {
        says("BACK to one all that it keeps is as it was then (IMAGES stay).");
        DarkCommittee x = together(9, 9);
        x.matter(1, 1);
        x.heard(2);
        x.image(0);
        x.forget();
        x.heard(0);
        x.image(1);
        due("none: matter 1", x.canBe(), 2);
        x.back(0);
        due("two: matter 0", x.canBe(), 1);
        x.favour(1, 0, 0);
        due("as it is now", x.canBe(), 0);
        x.back(1);
        due("none again", x.canBe(), 2);
    }

    private static void promise41Count() {
        says("`int count(int what)`");
        DarkCommittee x = together(9, 9, 9);
        x.fly(2, -1);
        x.matter(1, 1);
        x.move(0, 0);
        x.divide(0);
        x.heard(2);
        law(x, "bars");
        feed(x, "abc");
        int[] counts = {3, 2, 2, 5, 1, 1, 2, 3, 0, 0, 0, 0, 0, -1, 0, 1, 0, 1};
        for (int what = 0; what < counts.length; what++) {
            due("count " + what, x.count(what), counts[what]);
        }
        x.law();
        x.image(9);
        x.fly(0, 77);
        x.force(7);
        x.undo();
        x.divide(1);
        x.pass();
        x.pass();
        for (int m = 0; m < 5; m++) {
            x.matter(1, 1);
        }
        x.of(99, 99);
        x.at(99, 99);
        due("by -1", x.count(8), 2);
        due("by -2", x.count(9), 1);
        due("by -3", x.count(10), 1);
        due("by -5", x.count(11), 1);
        due("by -6", x.count(12), 1);
        due("count 18", x.count(18), -1);
        due("count -1", x.count(-1), -1);
    }

    private static void promise42Status() {
        says("`int status()`");
        DarkCommittee x = fresh();
        due("ahead of any", x.status(), 0);
        due("bird", x.bird(99, 0), -1);
        x.feed(0, 0, 0, 0, 0);
        x.end(0);
        x.end(99);
        x.of(0, 0);
        x.at(0, 0);
        x.cats();
        x.fault();
        x.stopped();
        x.second(0, 0);
        x.richest(0);
        x.byClock(99);
        x.spoilt(0, 0);
        x.come(0, 0);
        x.chain(0, 0, 0);
        x.ears(0);
        x.loudest(0);
        x.nearest(0, 0);
        x.forget();
        x.canBe();
        x.listen(0);
        x.few(1, 1);
        x.compare(0, 0);
        x.drawn(0, 0);
        x.count(0);
        due("none of these is meant", x.status(), -1);
        refused("matter", x, x.matter(0, 0), -1);
        due("and back to 0", x.bird(0, 0) + x.status(), 0);
        refused("force", x, x.force(3), -2);
        due("force none", x.force(-1), -1);
        due("that is no refusal", x.status(), 0);
        refused("row", x, x.row(), -6);
        due("heard", x.heard(0) - 1 + x.status(), 0);
        refused("mays", x, x.mays(0, 1), -3);
        due("image", x.image(0) + x.status(), 0);
        refused("back", x, x.back(1), -2);
        due("back", x.back(0) + x.status(), 0);
        refused("orders", x, orders(x, "divide 0"), -3);
        due("pass", x.pass() + x.status(), 0);
        refused("law", x, x.law(), -6);
        due("favour", x.favour(0, 0, 5) + x.status(), 0);
        refused("terms", x, x.terms(9, 9), -1);
        due("undo", x.undo() - 3 + x.status(), 0);
        refused("undo", x, x.undo(), -3);
        due("fly", x.fly(0, 1) + x.status(), 0);
        refused("move", x, x.move(0, 0), -2);
    }
}
