/** III of the document, as far as one sits, moves, divides: each sentence that names a bound, at it and beside it. */
public final class BoundsOfSittingTest extends Copse {
    private BoundsOfSittingTest() {
    }

    public static void main(String[] args) throws IllegalAccessException {
        runAll(BoundsOfSittingTest.class);
    }

    private static void whoSits() {
        says("SITTING on a MATTER: BIRDS that are not AWAY and do not WITHDRAW from it.");
        DarkCommittee x = birds(new int[] {0, 9, 9, 9}, new int[] {19, 0, 0, 0}, new int[] {-1, 9, 9, 9},
                new int[] {5, 5, 5, 4});
        x.matter(1, 1);
        x.matter(1, 1);
        due("but for the one away", x.at(0, 4), 11);
        inForce(x, "bars if bird = 3 and matter = 0; bars if tree < 0");
        due("one withdraws from 0", x.at(0, 4), 3);
        due("not from 1", x.at(1, 4), 11);
        due("ayes on 0", x.at(0, 5), 1);
        due("ayes on 1", x.at(1, 5), 1);
        int[][] votes = {{2, 2}, {1, 1}, {0, 0}, {0, 1}};
        for (int b = 0; b < 4; b++) {
            due(b + " on 0", x.of(b, 15), votes[b][0]);
            due(b + " on 1", x.of(b, 16), votes[b][1]);
        }
        for (int b = 0; b < 4; b++) {
            x.fly(b, -1);
        }
        due("nobody", x.at(0, 4) + x.at(1, 4) + x.at(0, 5) + x.at(1, 5), 0);
    }

    private static void whoHears() {
        says("A BIRD HEARS another one, if neither is AWAY and their TREES are no farther apart "
                + "than the RANGE of the other one.");
        for (int range = 0; range <= 9; range++) {
            DarkCommittee x = birds(new int[] {0, range}, new int[] {-1, 0}, new int[] {19, range});
            due("away hears none", x.of(1, 2), 0);
            due("none hears away", x.of(0, 2), 0);
            for (int tree = 0; tree < 20; tree++) {
                x.fly(1, tree);
                int hears = (tree <= range ? 1 : 0) + (19 - tree <= range ? 4 : 0);
                due("range " + range + ", tree " + tree, x.of(1, 2), hears);
                due("range 0, from 0, tree " + tree, x.of(0, 2), tree == 0 ? 2 : 0);
                due("range 0, from 19, tree " + tree, x.of(2, 2), tree == 19 ? 2 : 0);
            }
            x.fly(0, -1);
            due("none hears one that left", x.of(1, 2), 4);
            due("one that left hears none", x.of(0, 2), 0);
        }
        DarkCommittee y = birds(new int[] {7, 9});
        due("not itself", y.of(0, 2), 0);
    }

    private static void whoWouldSecond() {
        says("It would SECOND a MATTER moved by another BIRD, if it HEARS that one and is an AYE.");
        for (int favour = 4; favour <= 5; favour++) {
            for (int far = 3; far <= 4; far++) {
                DarkCommittee x = birds(new int[] {4, 3, 9}, new int[] {4 + far, 0, favour});
                x.matter(1, 1);
                int by = favour == 5 && far == 3 ? 1 : -1;
                due("favour " + favour + ", far " + far, x.second(0, 0), by);
                due("to move: favour " + favour + ", far " + far, x.move(0, 0), by == 1 ? 1 : -3);
            }
        }
        DarkCommittee x = birds(new int[] {4, 3, 9}, new int[] {4, 3, 9}, new int[] {4, 3, 9});
        x.matter(1, 1);
        due("not itself: the lowest other", x.second(0, 0), 1);
        due("the lowest", x.second(0, 2), 0);
        inForce(x, "bars if bird = 0");
        due("one that withdraws does not", x.second(0, 2), 1);
        due("but may have moved", x.second(0, 0), 1);
        x.fly(1, -1);
        due("away: does not", x.second(0, 2), -1);
        due("away: has not moved", x.second(0, 1), -1);
    }

    private static void whatCanBeMoved() {
        says("To MOVE a MATTER that LIES by a BIRD that is SITTING on it, "
                + "if another one would SECOND it: it is MOVED.");
        DarkCommittee x = birds(new int[] {4, 9, 9, 9}, new int[] {4, 9, 0, 9}, new int[] {-1, 9, 9, 9});
        x.matter(1, 1);
        x.matter(1, 1);
        refused("none would second", x, x.move(0, 0), -3);
        due("another would", x.move(0, 1), 0);
        refused("moved", x, x.move(0, 1), -3);
        x.divide(0);
        due("lost", x.at(0, 2), 3);
        refused("lost", x, x.move(0, 1), -3);
        due("by one that is no aye, too", x.move(1, 1), 0);
        x.divide(1);
        due("carried", x.at(1, 2), 2);
        refused("carried", x, x.move(1, 1), -3);
        refused("by one away", x, x.move(0, 2), -3);
        x.pass();
        refused("carried still", x, x.move(1, 1), -3);
        refused("by one away", x, x.move(0, 2), -3);
        inForce(x, "bars if bird = 1 and clock = 0");
        refused("by one that withdraws", x, x.move(0, 1), -3);
        due("it would be seconded, though", x.second(0, 1), 0);
        x.force(-1);
        due("lies again", x.move(0, 1), 0);
    }

    private static void asManyAsQuorum() {
        says("if those SITTING on it are as many as QUORUM at least");
        for (int quorum = 0; quorum <= 7; quorum++) {
            for (int sit = 0; sit <= 7; sit++) {
                DarkCommittee x = willing(7, 1, 1, 5);
                x.move(0, 0);
                x.terms(3, quorum);
                for (int b = sit; b < 7; b++) {
                    x.fly(b, -1);
                }
                String what = sit + " sit, quorum " + quorum;
                due(what, x.at(0, 6), sit >= quorum ? 1 : 0);
                due("richest: " + what, x.richest(-1), sit >= quorum && sit > 0 ? 5 : 0);
                due("by the clock: " + what, x.byClock(48), sit >= quorum && sit > 0 ? 5 : 0);
                due("divide: " + what, x.divide(0), sit >= quorum ? sit : -3);
                due("stands: " + what, x.at(0, 2), sit < quorum ? 1 : sit == 0 ? 3 : 2);
            }
        }
    }

    private static void quorumOfThoseWhoSit() {
        says("if those SITTING on it are as many as QUORUM at least");
        DarkCommittee x = willing(4, 1, 1, 5);
        x.favour(3, 0, 0);
        x.move(0, 0);
        x.terms(3, 4);
        due("noes sit, too", x.at(0, 6), 1);
        inForce(x, "bars if bird = 2");
        due("who withdraws does not", x.at(0, 6), 0);
        refused("three of four", x, x.divide(0), -3);
        x.terms(3, 3);
        due("three of three", x.divide(0), 2);
        due("carried", x.at(0, 2), 2);
    }

    private static void lightAtFortyEight() {
        says("CLOCK and what it TAKES is 48 at most");
        for (int takes = 2; takes <= 4; takes++) {
            DarkCommittee x = willing(3, 6, 9, 1);
            for (int m = 0; m < 6; m++) {
                x.move(m, 0);
            }
            for (int m = 0; m < 5; m++) {
                x.divide(m);
            }
            inForce(x, "takes " + takes);
            boolean can = takes <= 3;
            due("can be: 45 and " + takes, x.at(5, 6), can ? 1 : 0);
            due("divide: 45 and " + takes, x.divide(5), can ? 3 : -3);
            due("clock: 45 and " + takes, x.count(3), can ? 45 + takes : 45);
            due("stands: 45 and " + takes, x.at(5, 2), can ? 2 : 1);
        }
    }

    private static void moreAyesThanNoes() {
        says("it is CARRIED, if AYES are more than NOES, else LOST");
        for (int ayes = 0; ayes <= 7; ayes++) {
            for (int noes = 0; ayes + noes <= 7; noes++) {
                DarkCommittee x = willing(7, 1, 1, 5);
                x.move(0, 0);
                for (int b = ayes; b < 7; b++) {
                    x.favour(b, 0, 4);
                }
                for (int b = ayes + noes; b < 7; b++) {
                    x.fly(b, -1);
                }
                x.terms(3, 0);
                String what = ayes + " ayes, " + noes + " noes";
                due("richest: " + what, x.richest(-1), ayes > noes ? 5 : 0);
                due("spoilt: " + what, x.spoilt(0, 0), Math.max(0, ayes - noes));
                due("divide: " + what, x.divide(0), ayes);
                due("stands: " + what, x.at(0, 2), ayes > noes ? 2 : 3);
            }
        }
    }

    private static void askedAsItWasAhead() {
        says("(all asked as it was ahead); CLOCK is more by what it TAKES.");
        DarkCommittee x = willing(3, 2, 5, 5);
        x.move(0, 0);
        x.move(1, 0);
        inForce(x, "sways 0 if clock > 0; takes 7 if clock > 0; bars if clock > 0 and bird = 2");
        due("three ayes", x.divide(0), 3);
        due("carried", x.at(0, 2), 2);
        due("five later", x.count(3), 5);
        due("two sit then", x.at(1, 4), 3);
        due("none is an aye then", x.divide(1), 0);
        due("lost", x.at(1, 2), 3);
        due("seven later", x.count(3), 12);
    }

    private static void flights() {
        says("To FLY: a BIRD is in another TREE (or comes), or AWAY.");
        DarkCommittee x = birds(new int[] {0, 0}, new int[] {-1, 0});
        refused("to its own", x, x.fly(0, 0), -3);
        due("to another", x.fly(0, 1), 0);
        due("as far as can be", x.fly(0, 19), 1);
        due("away", x.fly(0, -1), 19);
        refused("away already", x, x.fly(0, -1), -3);
        refused("away at first", x, x.fly(1, -1), -3);
        due("it comes", x.fly(1, 0), 20);
        due("it comes", x.fly(0, 19), 20);
        due("two are present", x.count(1), 2);
    }

    private static void nights() {
        says("MATTERS that are MOVED or LOST LIE; it is the next NIGHT (at 999 it can't be).");
        DarkCommittee x = willing(3, 4, 2, 5);
        for (int b = 0; b < 3; b++) {
            x.favour(b, 1, b == 0 ? 9 : 0);
        }
        x.move(0, 0);
        x.move(1, 1);
        x.move(2, 0);
        x.divide(0);
        x.divide(1);
        due("2, 3, 1, 0", x.at(0, 2) * 1000 + x.at(1, 2) * 100 + x.at(2, 2) * 10 + x.at(3, 2), 2310);
        x.terms(0, 997);
        due("to 998", x.pass(), 3);
        due("night", x.count(14), 998);
        due("clock", x.count(3), 0);
        due("2, 0, 0, 0", x.at(0, 2) * 1000 + x.at(1, 2) * 100 + x.at(2, 2) * 10 + x.at(3, 2), 2000);
        due("to 999", x.pass(), 3);
        due("night", x.count(14), 999);
        x.move(3, 0);
        x.divide(3);
        refused("no further", x, x.pass(), -3);
        due("night", x.count(14), 999);
        due("clock", x.count(3), 2);
        due("still carried", x.at(3, 2), 2);
        x.terms(0, 998);
        due("to 999 again", x.pass(), 2);
        refused("no further", x, x.pass(), -3);
        due("none lies without matters", new DarkCommittee().pass(), 0);
    }

    private static void nightByTerms() {
        says("MATTERS that are MOVED or LOST LIE; it is the next NIGHT (at 999 it can't be).");
        DarkCommittee x = willing(3, 2, 2, 5);
        x.move(0, 0);
        x.move(1, 0);
        x.divide(0);
        x.terms(0, 500);
        due("a term alone: the clock goes on", x.count(3), 2);
        due("a term alone: moved still", x.at(1, 2), 1);
        due("one lies then", x.pass(), 1);
        due("501", x.count(14), 501);
    }
}
