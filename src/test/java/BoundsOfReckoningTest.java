/** II of the document, as far as TEXTS are reckoned and run: each sentence that names a bound, at it and beside it. */
public final class BoundsOfReckoningTest extends Copse {
    /** What one is SWAYED, if no "sways" HOLDS. */
    private static final int FAVOUR = 6;

    private BoundsOfReckoningTest() {
    }

    public static void main(String[] args) throws IllegalAccessException {
        runAll(BoundsOfReckoningTest.class);
    }

    private static DarkCommittee one() {
        DarkCommittee x = birds(new int[] {4, 1, FAVOUR}, new int[] {4, 1, FAVOUR});
        x.matter(7, 3);
        return x;
    }

    private static int swayed(String law) {
        DarkCommittee x = one();
        inForce(x, law);
        return x.of(0, 9);
    }

    /** A SUM in a LAW and in ORDERS: 1 it is so, 0 it is not, -1 it is BROKEN. */
    private static void test(String test, int want) {
        int law = swayed("sways 1 if " + test + "; sways 0 if not (" + test + ")");
        due("law: " + test, law == FAVOUR ? -1 : law, want);
        DarkCommittee x = new DarkCommittee();
        int orders = orders(x, "pass times 2 if " + test + "; pass if not (" + test + ")");
        due("orders: " + test, orders == 0 ? -1 : orders - 1, want);
    }

    private static void beyondABillion() {
        says("Beyond 1,000,000,000 either way, or divided by 0");
        test("1000*1000*1000 > 1000", 1);
        test("1000*1000*1000 - 1 < 1000*1000*1000", 1);
        test("1000*1000*1000 + 1 > 0", -1);
        test("1 + 1000*1000*1000 > 0", -1);
        test("1000*1000*[1000+1] > 0", -1);
        test("[19*1000+19] * [52*1000+579] > 0", -1);
        test("[19*1000+19] * [52*1000+579] = 0", -1);
        test("999*1000*1000 + 999*1000 + 999 + 1 = 1000*1000*1000", 1);
        test("999*1000*1000 + 999*1000 + 1000 + 1 > 0", -1);
        test("0 - 1000*1000*1000 < 0", 1);
        test("0 - 1000*1000*1000 + 1 < 0", 1);
        test("0 - 1000*1000*1000 - 1 < 0", -1);
        test("[0-1000]*1000*1000 < 0", 1);
        test("[0-1000]*1000*[1000+1] < 0", -1);
        test("[0-1000]*[0-1000]*1000 > 0", 1);
        test("[0-1000]*[0-1000]*[1000+1] > 0", -1);
        test("0 - 1 - 1000*1000*1000 < 0", -1);
        test("1000*1000*1000/[0-1] < 0", 1);
        test("1000*1000*1000/1 > 0", 1);
    }

    private static void noWrapAround() {
        says("Beyond 1,000,000,000 either way, or divided by 0");
        test("[256*256]*[256*256] = 0", -1);
        test("[256*256]*[256*256] > 0", -1);
        test("[256*256]*[256*256]+7 = 7", -1);
        test("[256*256]*[256*128] < 0", -1);
        test("1000*1000*1000*[1000*1000*1000] > 0", -1);
        test("1000*1000*1000*[0-1000*1000*1000] < 0", -1);
        test("1000*1000*1000+1000*1000*1000 > 0", -1);
        test("0-1000*1000*1000-1000*1000*1000 < 0", -1);
        test("1000*1000*1000*0 = 0", 1);
        test("1000*1000*1000*1*1 > 0", 1);
    }

    private static void brokenOnEitherSide() {
        says("a SUM, a TEST is BROKEN");
        test("1/0 < 1", -1);
        test("1 < 1/0", -1);
        test("1/0 > 1", -1);
        test("1 > 1/0", -1);
        test("1/0 = 1/0", -1);
        test("1%0 = 0", -1);
        test("not 1/0 = 1", -1);
        test("not not 1/0 = 1", -1);
        test("[1/0]*0 = 0", -1);
        test("0*[1/0] = 0", -1);
        test("1 + 1/0 - 1/0 = 1", -1);
        test("(1/0 = 1)", -1);
    }

    private static void dividedByNothing() {
        says("divided by 0 (/ cut towards 0, % what is left then)");
        test("1/0 = 0", -1);
        test("0/0 = 0", -1);
        test("1%0 = 0", -1);
        test("0%0 = 0", -1);
        test("7/[1-1] = 0", -1);
        test("0/1 = 0", 1);
        test("0%1 = 0", 1);
        test("1/1 = 1", 1);
        test("1%1 = 0", 1);
        test("1/[0-1] = 0-1", 1);
        test("1%[0-1] = 0", 1);
    }

    private static void cutTowardsNothing() {
        says("divided by 0 (/ cut towards 0, % what is left then)");
        test("6/2 = 3", 1);
        test("7/2 = 3", 1);
        test("1/2 = 0", 1);
        test("[0-1]/2 = 0", 1);
        test("[0-6]/2 = 0-3", 1);
        test("[0-7]/2 = 0-3", 1);
        test("7/[0-2] = 0-3", 1);
        test("[0-7]/[0-2] = 3", 1);
        test("7%2 = 1", 1);
        test("6%2 = 0", 1);
        test("[0-7]%2 = 0-1", 1);
        test("7%[0-2] = 1", 1);
        test("[0-7]%[0-2] = 0-1", 1);
        test("[0-1]%2 = 0-1", 1);
        test("1%1000 = 1", 1);
        test("7-7/2*2 = 7%2", 1);
    }

    private static void whatCanStillMatter() {
        says("(\"or\", \"and\" ask what stands behind only if it can still matter; "
                + "a part that was asked and is BROKEN makes all of it BROKEN)");
        test("1=1 or 1/0=1", 1);
        test("1=2 or 1/0=1", -1);
        test("1/0=1 or 1=1", -1);
        test("1/0=1 or 1=2", -1);
        test("1=2 and 1/0=1", 0);
        test("1=1 and 1/0=1", -1);
        test("1/0=1 and 1=1", -1);
        test("1/0=1 and 1=2", -1);
        test("1=2 and 1/0=1 or 1=1", 1);
        test("1=2 and 1/0=1 or 1=2", 0);
        test("1=2 and 1=1 or 1/0=1", -1);
        test("1=1 and 1=1 or 1/0=1", 1);
        test("1=1 and 1/0=1 or 1=1", -1);
        test("1=1 or 1/0=1 and 1=2", 1);
        test("1=2 or 1=2 and 1/0=1", 0);
        test("1=2 or 1=1 and 1/0=1", -1);
        test("1=2 or 1=1 or 1/0=1", 1);
        test("1=1 or 1/0=1 or 1/0=1", 1);
        test("1=1 and 1=2 and 1/0=1", 0);
        test("1=2 and 1/0=1 and 1/0=1", 0);
        test("1=1 or 1=2 and 1/0=1 or 1/0=1", 1);
        test("(1=2 and 1/0=1) or 1=1", 1);
        test("(1=1 or 1/0=1) and 1=1", 1);
        test("(1=1 or 1/0=1) and 1/0=1", -1);
        test("(1=2 or 1/0=1) and 1=2", -1);
        test("1=2 and (1/0=1 or 1=1)", 0);
        test("1=1 or (1/0=1 and 1=1)", 1);
        test("not (1=2 and 1/0=1)", 1);
        test("not (1=1 or 1/0=1)", 0);
        test("not 1=2 or 1/0=1", 1);
        test("not 1=1 and 1/0=1", 0);
    }

    private static void lessMoreAlike() {
        says("SUM (\"<\" | \">\" | \"=\") SUM.");
        test("1 < 2", 1);
        test("2 < 2", 0);
        test("3 < 2", 0);
        test("1 > 2", 0);
        test("2 > 2", 0);
        test("3 > 2", 1);
        test("1 = 2", 0);
        test("2 = 2", 1);
        test("3 = 2", 0);
        test("not 1 = 2", 1);
        test("not not 1 = 2", 0);
        test("not not not 1 = 2", 1);
        test("not not not not 1 = 2", 0);
        test(again("not ", 40) + "1 = 1", 1);
        test(again("not ", 41) + "1 = 1", 0);
        test("0-1 < 0", 1);
        test("0 > 0-1", 1);
    }

    private static void sumsOfTerms() {
        says("SUM: TERM {(\"+\" | \"-\") TERM}. TERM: PART {(\"*\" | \"/\" | \"%\") PART}.");
        test("1+2*3 = 7", 1);
        test("[1+2]*3 = 9", 1);
        test("7-2-2 = 3", 1);
        test("100/10/5 = 2", 1);
        test("100/10*5 = 50", 1);
        test("17%10%4 = 3", 1);
        test("2*17%10 = 4", 1);
        test("7-[2-2] = 7", 1);
    }

    private static void testsOfBoth() {
        says("TEST: BOTH {\"or\" BOTH}. BOTH: PLAIN {\"and\" PLAIN}.");
        String[] plain = {"1=2", "1=1"};
        for (int set = 0; set < 16; set++) {
            String a = plain[set & 1];
            String b = plain[set >> 1 & 1];
            String c = plain[set >> 2 & 1];
            String d = plain[set >> 3];
            boolean aSo = (set & 1) != 0;
            boolean bSo = (set & 2) != 0;
            boolean cSo = (set & 4) != 0;
            boolean dSo = (set & 8) != 0;
            test(a + " and " + b + " or " + c + " and " + d, aSo && bSo || cSo && dSo ? 1 : 0);
            test(a + " or " + b + " and " + c + " or " + d, aSo || bSo && cSo || dSo ? 1 : 0);
            test("(" + a + " or " + b + ") and (" + c + " or " + d + ")", (aSo || bSo) && (cSo || dSo) ? 1 : 0);
            test("not " + a + " and " + b + " or not (" + c + " or " + d + ")", !aSo && bSo || !(cSo || dSo) ? 1 : 0);
            test(a + " and " + b + " and " + c + " and " + d, set == 15 ? 1 : 0);
            test(a + " or " + b + " or " + c + " or " + d, set == 0 ? 0 : 1);
        }
    }

    private static void whetherAClauseHolds() {
        says("A CLAUSE HOLDS, if its \"if\" (if it has one) is so, and neither that nor its SUM is BROKEN.");
        String[] ifs = {"", " if 1=1", " if 1=2", " if 1/0=1"};
        for (int i = 0; i < 4; i++) {
            boolean so = i < 2;
            due("sways 1" + ifs[i], swayed("sways 1" + ifs[i]), so ? 1 : FAVOUR);
            due("sways 1/0" + ifs[i], swayed("sways 1/0" + ifs[i]), FAVOUR);
            DarkCommittee x = one();
            inForce(x, "takes 1" + ifs[i]);
            due("takes 1" + ifs[i], x.at(0, 3), so ? 1 : 7);
            inForce(x, "takes 1%0" + ifs[i]);
            due("takes 1%0" + ifs[i], x.at(0, 3), 7);
            inForce(x, "bars" + ifs[i]);
            due("bars" + ifs[i], x.at(0, 4), so ? 0 : 3);
        }
    }

    private static void whatOrdersMean() {
        says("(a MATTER, a BIRD; a MATTER; a BIRD, a TREE, -1: AWAY; a NIGHT.)");
        DarkCommittee x = one();
        x.matter(1, 1);
        x.favour(0, 1, 9);
        due("matter 1 by bird 0", orders(x, "move 1 by 0 if 1=2; move 0 by 1; move 1 by 1"), 2);
        due("both are moved", x.at(0, 2) * 10 + x.at(1, 2), 11);
        due("divide 1", orders(x, "divide 1"), 1);
        due("1 alone", x.at(0, 2) * 10 + x.at(1, 2), 13);
        due("bird 1 to tree 0", orders(x, "fly 1 to 0"), 1);
        due("trees", x.of(0, 0) * 10 + x.of(1, 0), 40);
        due("bird 0 away", orders(x, "fly 0 to 0-1"), 1);
        due("trees", x.of(0, 0) * 10 + x.of(1, 0), -10);
        due("bird 0 to tree 19", orders(x, "fly 0 to 19"), 1);
        due("trees", x.of(0, 0) * 10 + x.of(1, 0), 190);
        due("a night", orders(x, "pass"), 1);
        due("one lies that was lost, one that was moved", x.at(0, 2) * 10 + x.at(1, 2) + x.count(14), 1);
    }

    private static void asOftenAsTimesTell() {
        says("Run CLAUSE by CLAUSE, each as often as TIMES tell (once without);");
        DarkCommittee x = one();
        due("one, two, twenty", orders(x, "pass; pass times 1; pass times 2; pass times 20"), 24);
        due("nights", x.count(14), 24);
        due("one behind the other", orders(x, "fly 0 to done times 3; fly 1 to done; fly 0 to 9"), 5);
        due("trees", x.of(0, 0) * 10 + x.of(1, 0), 93);
        due("undone from the last", x.undo() + x.of(0, 0), 4);
    }

    private static void howManyArePresent() {
        says("present: how many BIRDS are not AWAY");
        DarkCommittee x = new DarkCommittee();
        due("none", orders(x, "pass if present = 0"), 1);
        for (int b = 0; b < 7; b++) {
            x.bird(-1, 0);
        }
        for (int present = 0; present <= 7; present++) {
            due("present " + present, orders(x, "pass if present = " + present), 1);
            due("as counted", x.count(1), present);
            x.fly(present, 0);
        }
    }

    private static void sixLaws() {
        says("LAWS, 6 at most; one is in FORCE (NONE at first: no CLAUSE)");
        DarkCommittee x = one();
        due("none at first", x.count(13), -1);
        due("no clause", x.of(0, 9), FAVOUR);
        for (int l = 0; l < 6; l++) {
            refused("no law yet", x, x.force(l), -2);
            due("law", law(x, "sways " + l), l);
            due("not in force by itself", x.of(0, 9), FAVOUR);
        }
        feed(x, "sways 9");
        refused("a seventh", x, x.law(), -5);
        due("six", x.count(5), 6);
        for (int l = 0; l < 6; l++) {
            due("in force", x.force(l), l - 1);
            due("swayed", x.of(0, 9), l);
        }
        refused("no law 6", x, x.force(6), -2);
        refused("no law -2", x, x.force(-2), -2);
        due("the sixth still", x.of(0, 9), 5);
        due("none", x.force(-1), 5);
        due("no clause", x.of(0, 9), FAVOUR);
    }

    private static void noRoomForALaw() {
        says("-5 (ahead of reading it; the TAPE is empty then, too)");
        DarkCommittee x = one();
        for (int l = 0; l < 5; l++) {
            law(x, "bars");
        }
        law(x, "bars ?");
        due("a fault while there is room", x.fault(), 5);
        due("a sixth", law(x, "bars if 1=1"), 5);
        due("no fault", x.fault(), -1);
        orders(x, "pass ;");
        due("a fault", x.fault(), 6);
        refused("a seventh", x, law(x, "bars"), -5);
        due("it was not read", x.fault(), 6);
        due("the tape is empty", x.count(7), 0);
        refused("a seventh that is none", x, law(x, "?"), -5);
        due("it was not read", x.fault(), 6);
        refused("of nothing", x, x.law(), -5);
        due("it was not read", x.fault(), 6);
        due("by -5, by -6", x.count(11) * 10 + x.count(12), 32);
    }

    private static void swayedWithin() {
        says("One is SWAYED 0 .. 9 as the last \"sways\" that HOLDS tells (else the nearest), as its FAVOUR without");
        int[] told = {-1000, -2, -1, 0, 1, 8, 9, 10, 11, 1000};
        int[] want = {0, 0, 0, 0, 1, 8, 9, 9, 9, 9};
        for (int i = 0; i < told.length; i++) {
            due("sways " + told[i], swayed(told[i] < 0 ? "sways 0-" + -told[i] : "sways " + told[i]), want[i]);
        }
        due("a billion", swayed("sways 1000*1000*1000"), 9);
        due("a billion below", swayed("sways 0-1000*1000*1000"), 0);
        due("beyond: it does not hold", swayed("sways 1000*1000*1000+1"), FAVOUR);
        due("the last", swayed("sways 1; sways 2"), 2);
        due("the last that holds", swayed("sways 1; sways 2; sways 3 if 1=2"), 2);
        due("one that holds alone", swayed("sways 1 if 1=2; sways 2; sways 3 if 1=2"), 2);
        due("none holds", swayed("sways 1 if 1=2; sways 2/0"), FAVOUR);
        due("others alone", swayed("takes 1; bars"), FAVOUR);
    }

    private static void ayesByLaw() {
        says("AYES: those SITTING on it who are SWAYED 5 at least, NOES the others SITTING.");
        for (int n = -1; n <= 10; n++) {
            DarkCommittee x = one();
            inForce(x, "sways " + (n < 0 ? "0-1" : "" + n));
            due("by law " + n, x.of(0, 15), n >= 5 ? 2 : 1);
            due("ayes by law " + n, x.at(0, 5), n >= 5 ? 3 : 0);
            due("sitting by law " + n, x.at(0, 4), 3);
        }
        for (int n = 0; n <= 9; n++) {
            DarkCommittee x = one();
            x.favour(0, 0, n);
            due("by favour " + n, x.of(0, 15), n >= 5 ? 2 : 1);
            due("ayes by favour " + n, x.at(0, 5), n >= 5 ? 3 : 2);
        }
    }

    private static void takesWithin() {
        says("a MATTER TAKES 1 .. 9, as many as it has CLAUSES without");
        String[] told = {"0-1000", "0-1", "0", "1", "2", "8", "9", "10", "1000", "1000*1000*1000", "1/0", "5 if 1=2"};
        int[] want = {1, 1, 1, 1, 2, 8, 9, 9, 9, 9, 7, 7};
        for (int i = 0; i < told.length; i++) {
            DarkCommittee x = one();
            inForce(x, "takes " + told[i]);
            due("takes " + told[i], x.at(0, 3), want[i]);
            x.move(0, 0);
            x.divide(0);
            due("clock", x.count(3), want[i]);
        }
        DarkCommittee x = one();
        due("without", x.at(0, 3), 7);
        inForce(x, "takes 3; takes 4; takes 5 if clock = 1; sways 6; bars if 1=2");
        due("the last that holds", x.at(0, 3), 4);
        inForce(x, "takes bird + tree + favour + 8");
        due("bird, tree, favour are -1", x.at(0, 3), 5);
        inForce(x, "takes 2 if bird = 0-1 and tree = 0-1 and favour = 0-1; takes 9 if matter > 0");
        due("bird, tree, favour are -1", x.at(0, 3), 2);
    }

    private static void barsHolds() {
        says("one WITHDRAWS, if \"bars\" HOLDS");
        String[] bars = {"bars", "bars if 1=1", "bars if 1=2", "bars if 1/0=1", "bars if 1=2; bars",
            "bars; bars if 1=2", "bars if 1/0 = 1; bars if 1=2", "sways 9; takes 1", "bars if bird = 0",
            "bars if not bird = 0"};
        int[] sitting = {0, 0, 3, 3, 0, 0, 3, 3, 2, 1};
        for (int i = 0; i < bars.length; i++) {
            DarkCommittee x = one();
            inForce(x, bars[i]);
            due(bars[i], x.at(0, 4), sitting[i]);
            due("it is out: " + bars[i], x.of(0, 15), (sitting[i] & 1) == 0 ? 0 : 2);
            due("swayed all the same", x.of(0, 9), bars[i].startsWith("sways") ? 9 : FAVOUR);
        }
    }

    private static void whereABirdIs() {
        says("(tree: that in which the BIRD is, -1 AWAY; favour: for that MATTER)");
        DarkCommittee x = one();
        x.matter(1, 1);
        x.favour(0, 1, 2);
        inForce(x, "sways tree + 3; sways 8 if tree = 0; sways 7 if tree = 19");
        due("in 4", x.of(0, 9), 7);
        x.fly(0, 0);
        due("in 0", x.of(0, 9), 8);
        x.fly(0, 1);
        due("in 1", x.of(0, 9), 4);
        x.fly(0, -1);
        due("away", x.of(0, 9), 2);
        x.fly(0, 19);
        due("in 19", x.of(0, 9), 7);
        inForce(x, "sways favour - 1");
        due("for 0", x.of(0, 9), 5);
        due("for 1", x.of(0, 10), 1);
        inForce(x, "sways bird * 3 + matter");
        due("bird 1, matter 1", x.of(1, 10), 4);
    }

    private static void wordsOfLaws() {
        says("Words: \"bird\" | \"tree\" | \"favour\" | \"matter\" | \"clauses\" | \"rich\"");
        String[] words = {"bird", "tree", "favour", "matter", "clauses", "rich", "clock", "night - 990", "mood"};
        int[] swayed = {1, 4, 5, 2, 8, 7, 3, 6, 9};
        for (int i = 0; i < words.length; i++) {
            DarkCommittee x = willing(3, 1, 3, 1);
            x.matter(1, 1);
            x.matter(8, 7);
            x.favour(1, 2, 5);
            x.terms(0, 996);
            x.terms(2, 9);
            x.move(0, 0);
            x.divide(0);
            inForce(x, "sways " + words[i]);
            due(words[i], x.of(1, 11), swayed[i]);
        }
    }

    private static void clockAsItIsThen() {
        says("clock: CLOCK as it is then.");
        DarkCommittee x = willing(3, 6, 9, 1);
        for (int m = 0; m < 6; m++) {
            x.move(m, 0);
        }
        inForce(x, "takes 5; sways clock / 5");
        due("at 0", x.divide(0), 0);
        due("lost", x.at(0, 2), 3);
        for (int m = 1; m < 5; m++) {
            x.divide(m);
            due("lost at " + 5 * m, x.at(m, 2), 3);
        }
        due("at 25", x.divide(5), 3);
        due("carried", x.at(5, 2), 2);
    }

    private static void latestAndDone() {
        says("done: how many were run in this TEXT, latest: what the latest divide in it told (-1: none)");
        DarkCommittee x = one();
        due("ahead of all", orders(x, "fly 0 to done if done = 0 and latest = 0-1"), 1);
        due("done was 0", x.of(0, 0), 0);
        due("what is not run is not done", orders(x, "pass if 1=2; pass if 1/0=1; fly 0 to 7 + done"), 1);
        due("done was 0", x.of(0, 0), 7);
        due("each time counts", orders(x, "fly 0 to 8 + done times 5; fly 1 to done"), 6);
        due("0 in 12", x.of(0, 0), 12);
        due("1 in 5", x.of(1, 0), 5);
        orders(x, "fly 0 to 4; fly 1 to 4");
        due("two ayes", orders(x, "move 0 by 0; divide 0; fly 1 to latest"), 3);
        due("1 in 2", x.of(1, 0), 2);
        due("anew in each text", orders(x, "fly 1 to 9 if latest = 0-1 and done = 0"), 1);
        DarkCommittee y = one();
        y.move(0, 0);
        y.favour(0, 0, 4);
        y.favour(1, 0, 4);
        due("no ayes are 0, not none", orders(y, "divide 0; pass if latest = 0"), 2);
    }

    private static void presentTreeStands() {
        says("tree: of a BIRD (-1 AWAY, without such a BIRD, too), "
                + "stands: 0 a MATTER LIES, 1 MOVED, 2 CARRIED, 3 LOST, -1 without such a MATTER.");
        DarkCommittee x = birds(new int[] {0, 9, 9, 0}, new int[] {0, 9, 9, 0}, new int[] {19, 9},
                new int[] {-1, 9});
        x.matter(1, 1);
        due("trees", orders(x, "pass if tree 0 = 0 and tree 2 = 19 and tree 3 = 0-1 and tree 4 = 0-1 "
                + "and tree 6 = 0-1"), 1);
        due("present", orders(x, "pass if present = 3; fly 3 to 5; pass if present = 4; fly 0 to 0-1 ; "
                + "pass if present = 3; fly 0 to 0"), 6);
        due("matters 0, 1, 5", orders(x, "pass if stands 0 = 0 and stands 1 = 0-1 and stands 5 = 0-1"), 1);
        x.matter(1, 1);
        x.move(0, 0);
        x.favour(0, 1, 9);
        x.move(1, 1);
        x.favour(0, 1, 0);
        x.fly(2, -1);
        x.fly(3, -1);
        due("moved, carried, lost", orders(x, "pass if not stands 0 = 1; divide 0 ; divide 1; "
                + "pass if stands 0 = 2 and stands 1 = 3"), 3);
        DarkCommittee y = willing(7, 6, 1, 1);
        y.fly(6, 9);
        y.move(5, 0);
        due("the last of them", orders(y, "pass if tree 6 = 9 and stands 5 = 1 and present = 7"), 1);
    }

    private static void ifIsAskedFirst() {
        says("each time its \"if\" is asked (not run, if it is not so or BROKEN), then its SUMS from the left");
        DarkCommittee x = one();
        due("its sums are not asked",
                orders(x, "fly 1/0 to 3 if 1=2; fly 0 to 1/0 if 1=2; divide 1/0 if 1/0=1"), 0);
        due("nor is what can't be", orders(x, "divide 5 if 1=2; move 0 by 9 if 1/0=1; fly 0 to 4 if 1=2"), 0);
        due("each time", orders(x, "fly 0 to tree 0 + 1 times 20 if tree 0 < 7"), 3);
        due("0 in 7", x.of(0, 0), 7);
        due("not so, then so", orders(x, "pass times 3 if done > 0; pass; pass times 3 if night < 3"), 3);
        due("night 3", x.count(14), 3);
        refused("in the middle", x, orders(x, "fly 0 to tree 0 + 6 times 3"), -3);
        due("0 still in 7", x.of(0, 0), 7);
    }

    private static void stops(String text, int clause) {
        DarkCommittee x = one();
        x.terms(0, 990);
        x.fly(1, 5);
        x.fly(1, 4);
        refused(text, x, orders(x, text), -3);
        due("which: " + text, x.stopped(), clause);
        due("no fault: " + text, x.fault(), -1);
        due("night: " + text, x.count(14), 990);
        due("lies: " + text, x.at(0, 2), 0);
        due("trees: " + text, x.of(0, 0) * 10 + x.of(1, 0), 44);
        due("clock: " + text, x.count(3), 0);
        due("undone can be: " + text, x.count(6), 2);
        due("by -3 once: " + text, x.count(10), 1);
        due("by no other: " + text, x.count(8) + x.count(9) + x.count(11) + x.count(12), 0);
        due("the latest: " + text, x.undo() * 100 + x.of(1, 0), 205);
    }

    private static void oneThatCannotBe() {
        says("One that can't be (a BROKEN SUM, as move(), divide(), fly(), pass() are REFUSED) ends it: "
                + "all is as it was ahead of it.");
        stops("fly 0 to 20", 0);
        stops("fly 0 to 0-2", 0);
        stops("fly 2 to 1", 0);
        stops("fly 0-1 to 1", 0);
        stops("fly 0 to 4", 0);
        stops("fly 1/0 to 1", 0);
        stops("fly 0 to 1/0", 0);
        stops("fly 1000*1000*1000+1 to 1", 0);
        stops("fly 1000*1000*1000 to 1", 0);
        stops("fly 0 to 1000*1000*1000", 0);
        stops("pass times 9; pass", 1);
        stops("pass times 10", 0);
        stops("pass; pass times 5; pass times 4", 2);
        stops("move 0 by 2", 0);
        stops("move 1 by 0", 0);
        stops("move 0-1 by 0", 0);
        stops("move 0 by 0-1", 0);
        stops("move 0 by 0; move 0 by 0", 1);
        stops("move 0 by 0 times 2", 0);
        stops("move 0 by 1/0", 0);
        stops("move 1/0 by 0", 0);
        stops("divide 0", 0);
        stops("divide 1", 0);
        stops("divide 0%0", 0);
        stops("move 0 by 1; divide 0; divide 0", 2);
        stops("fly 0 to 9; move 0 by 1", 1);
        stops("fly 0 to 0-1; move 0 by 0", 1);
        stops("pass if 1=2; pass if 1/0=1; divide 0; pass", 2);
        stops("pass" + again(";pass", 9), 9);
        stops("fly 0 to done + 5 times 14; divide 0", 1);
        stops("fly 0 to done + 5 times 14; fly 1 to done times 5; pass times 2; divide 0", 3);
    }
}
