/** II of the document, as far as TEXTS are read: each sentence that names a bound, at it, below it and above it. */
public final class BoundsOfTextsTest extends Copse {
    private BoundsOfTextsTest() {
    }

    public static void main(String[] args) throws IllegalAccessException {
        runAll(BoundsOfTextsTest.class);
    }

    /** A LAW on a new object: its FAULT, -1 without. */
    private static void law(String text, int fault) {
        DarkCommittee x = new DarkCommittee();
        due("law " + text, law(x, text), fault == -1 ? 0 : -6);
        due("fault of law " + text, x.fault(), fault);
        due("status of law " + text, x.status(), fault == -1 ? 0 : -6);
        due("laws with " + text, x.count(5), fault == -1 ? 1 : 0);
    }

    /** ORDERS on a new object: their FAULT, -1 without (they may be such that can't be, though). */
    private static void orders(String text, int fault) {
        DarkCommittee x = new DarkCommittee();
        int told = orders(x, text);
        due("refused for a fault: " + text, told == -6 ? 1 : 0, fault == -1 ? 0 : 1);
        due("fault of orders " + text, x.fault(), fault);
        due("by -6: " + text, x.count(12), fault == -1 ? 0 : 1);
    }

    /** How one is SWAYED by a LAW: BIRD 0 in TREE 4, with a FAVOUR of 6 for MATTER 0 of 7 CLAUSES, RICH 3. */
    private static int swayed(String law) {
        DarkCommittee x = birds(new int[] {4, 1, 6});
        x.matter(7, 3);
        inForce(x, law);
        return x.of(0, 9);
    }

    private static void fourHundredBytes() {
        says("TEXTS are on a TAPE of at most 400 bytes.");
        due("the last of 400 bytes counts", swayed(again(" ", 393) + "sways 7"), 7);
        due("the last of 399 bytes counts", swayed(again(" ", 392) + "sways 7"), 7);
        law("sways 1" + again(" ", 392) + "?", 399);
        law("sways" + again(" ", 395), 400);
        law("sways" + again(" ", 394), 399);
        orders(again(" ", 396) + "pass", -1);
        orders("divide" + again(" ", 394), 400);
        law(again(" ", 400), 400);
        law(again(";", 400), 0);
        DarkCommittee x = new DarkCommittee();
        feed(x, again(" ", 393) + "sways 7");
        due("one more", x.feed(0x31313131, 0, 0, 0, 0), -1);
        due("cut by one", x.end(399), 399);
        due("the last is gone", x.law() * 1000 + x.fault(), -6000 + 399);
    }

    private static void rowsOfLetters() {
        says("TOKENS: longest rows of letters a .. z, of digits, single other bytes");
        law("bars" + (char) 96, 4);
        law("barsa", 0);
        law("barsz", 0);
        law("bars" + (char) 123, 4);
        law((char) 96 + "bars", 0);
        law((char) 123 + "bars", 0);
        law("zbars", 0);
        law("abars", 0);
        law("barS", 0);
        law("bars A", 5);
        law("bars Z", 5);
        law("swaysrich", 0);
        law("sways richif 1=1", 6);
        law("sways ric h", 6);
        law("sways rich", -1);
        law("bars ifnot 1=1", 5);
        law("bars;barsif 1=1", 5);
    }

    private static void rowsOfDigits() {
        says("TOKENS: longest rows of letters a .. z, of digits, single other bytes");
        law("sways 1/1", -1);
        law("sways 1:1", 7);
        law("sways 1:", 7);
        law("sways :", 6);
        law("sways /", 6);
        law("sways 0", -1);
        law("sways 9", -1);
        law("sways 90", -1);
        law("sways 09", -1);
        law("sways 1 0", 8);
        law("sways1", -1);
        law("sways 1rich", 7);
        law("sways rich1", 10);
        law("sways1if1=1and2=2or not3=3", -1);
        orders("pass times 2if done<1", -1);
        orders("pass times2", -1);
        orders("fly tree0 to1", -1);
        orders("fly 0to1", -1);
        due("digits make one number", swayed("sways 100 - 093"), 7);
    }

    private static void singleBytes() {
        says("TOKENS: longest rows of letters a .. z, of digits, single other bytes");
        law("bars if 1==1", 10);
        law("bars if 1<=1", 10);
        law("bars if 1>>1", 10);
        law("bars if 1<>1", 10);
        law("sways 1++1", 8);
        law("sways 1--1", 8);
        law("sways -1", 6);
        law("sways [[1]]*[2]", -1);
        law("bars if((1=1))", -1);
        law("bars;;bars", 5);
        law(";bars", 0);
        for (int b = 1; b < 256; b++) {
            boolean grown = b == ' ' || b >= '0' && b <= '9' || b >= 'a' && b <= 'z';
            if (!grown) {
                int at = b == ';' || "+-*/%".indexOf((char) b) >= 0 ? 8 : 7;
                law("sways 1" + (char) b, at);
            }
        }
        law("sways 1\0", 7);
    }

    private static void blanks() {
        says("any blanks (32) between");
        law("  bars  ", -1);
        law(" sways  1  +  2  if  1  =  1  ;  bars ", -1);
        law("sw ays 1", 0);
        law("sways 1 2", 8);
        law("bars if 1 = = 1", 12);
        int[] noBlanks = {0, 9, 10, 13, 31, 33, 160};
        for (int b : noBlanks) {
            law("sways" + (char) b + "1", 5);
            law("bars" + (char) b, 4);
            law((char) b + "bars", 0);
        }
    }

    private static void twelveClauses() {
        says("CLAUSE {\";\" CLAUSE}, 12 at most (FAULT at the 13th's first TOKEN)");
        law("bars" + again(";bars", 10), -1);
        law("bars" + again(";bars", 11), -1);
        law("bars" + again(";bars", 12), 60);
        law("bars" + again(";bars", 12) + "?", 60);
        law("bars" + again(";bars", 11) + ";", 60);
        law("bars" + again(";bars", 11) + ";  ", 62);
        law("bars" + again(";bars", 11) + "; ;", 61);
        law("bars" + again(";bars", 11) + " bars", 60);
        law("bars" + again(";bars", 10) + ";", 55);
        due("the twelfth holds", swayed(again("sways 1;", 11) + "sways 7"), 7);
        due("so does the first", swayed("sways 7" + again(";sways 1 if 1=2", 11)), 7);
        orders("pass" + again(";pass", 11), -1);
        orders("pass" + again(";pass", 12), 60);
        orders("pass" + again(";pass", 11) + ";", 60);
        orders("pass" + again(";pass", 11) + "; fly", 61);
        DarkCommittee x = new DarkCommittee();
        due("twelve are run", orders(x, "pass" + again(";pass", 11)), 12);
        due("thirteen are not", orders(x, "pass" + again(";pass", 12)), -6);
        due("night", x.count(14), 12);
    }

    private static void numbersToAThousand() {
        says("NUMBER (to 1,000)");
        law("sways 999", -1);
        law("sways 1000", -1);
        law("sways 1001", 6);
        law("sways 1009", 6);
        law("sways 2000", 6);
        law("sways 10000", 6);
        law("sways 4294967296", 6);
        law("sways 4294967297", 6);
        law("sways 18446744073709551617", 6);
        law("bars if 1000 = 1001", 15);
        orders("divide 1000", -1);
        orders("divide 1001", 7);
        orders("fly 1000 to 1001", 12);
        due("a thousand", swayed("sways 1000 - 993"), 7);
        due("none", swayed("sways 0"), 0);
    }

    private static void fiftyParts() {
        says("50 PARTS that are NUMBERS and words (FAULT at the 51st)");
        law("sways 1" + again("+1", 48), -1);
        law("sways 1" + again("+1", 49), -1);
        law("sways 1" + again("+1", 50), 106);
        law("sways rich" + again("+rich", 49), -1);
        law("sways rich" + again("+rich", 50), 256);
        law("sways 1" + again("+rich+1", 24) + "+rich", -1);
        law("sways 1" + again("+rich+1", 24) + "+rich+?", 181);
        law("sways 1" + again("+1", 49) + "+[1]", 107);
        law("sways 1" + again("+1", 49) + "+", 106);
        law("sways 1" + again("+1", 48) + "+[1]", -1);
        law("sways " + again("[1]+", 49) + "[1]", -1);
        law("sways " + again("[1]+", 50) + "[1]", 207);
        law("sways 1" + again("+1", 47) + " if 1=1", -1);
        law("sways 1" + again("+1", 48) + " if 1=1", 109);
        law("sways 1" + again("+1", 49) + " if 1=1", 109);
        law(again("takes 1;", 11) + "takes 1" + again("+1", 38), -1);
        law(again("takes 1;", 11) + "takes 1" + again("+1", 39), 172);
        due("all fifty are reckoned", swayed("sways 1" + again("+1", 49) + "-43"), 6);
        due("fifty of them", swayed("sways 100-1" + again("-1", 48)), 9);
        due("fifty of them", swayed("sways 55" + again("-1", 49)), 6);
        due("fifty of them", swayed("sways 54" + again("-1", 49)), 5);
    }

    private static void fiftyPartsOfOrders() {
        says("B, M, TIMES aside, NUMBERS and words count as PARTS.");
        String flight = "fly tree 0" + again("+tree 0", 23) + " to stands 0" + again("+done", 23);
        orders(flight, -1);
        orders(flight + "+1+1", -1);
        orders(flight + "+1+1 times 20", -1);
        orders(flight + "+1+1+1", flight.length() + 5);
        orders(flight + "+1+1 times 20 if 1=1", flight.length() + 17);
        orders(flight + "+1+tree 0", -1);
        orders(flight + "+1+1+tree 0", flight.length() + 5);
        orders(flight + "+1+1+tree", flight.length() + 5);
        orders(flight + "+1+1+stands 9", flight.length() + 5);
        orders(again("pass times 2;", 11) + "divide 1" + again("+1", 49), -1);
        orders(again("pass times 2;", 11) + "divide 1" + again("+1", 50), 250);
    }

    private static void eightBrackets() {
        says("8 brackets of both kinds within one another (FAULT at the 9th) at most");
        for (int deep = 1; deep <= 10; deep++) {
            String sums = again("[", deep) + "7" + again("]", deep);
            String tests = again("(", deep) + "1=1" + again(")", deep);
            law("sways " + sums, deep <= 8 ? -1 : 14);
            law("bars if " + tests, deep <= 8 ? -1 : 16);
            law("bars if not " + tests, deep <= 8 ? -1 : 20);
            law("bars if (" + sums + "=1)", deep <= 7 ? -1 : 16);
            law("bars if (((" + sums + "=" + sums + ")))", deep <= 5 ? -1 : 16);
            law("bars if ((((((" + tests + "))))))", deep <= 2 ? -1 : 16);
            orders("divide " + sums, deep <= 8 ? -1 : 15);
            orders("pass if " + tests, deep <= 8 ? -1 : 16);
            orders("fly " + sums + " to " + sums, deep <= 8 ? -1 : 12);
            orders("fly 1 to " + sums, deep <= 8 ? -1 : 17);
            orders("move 1 by " + sums, deep <= 8 ? -1 : 18);
            orders("pass if 1 < " + sums, deep <= 8 ? -1 : 20);
        }
        law("sways " + again("[", 8) + "1" + again("]", 8) + "+" + again("[", 8) + "1" + again("]", 8), -1);
        law("sways " + again("[", 8) + "1" + again("]", 8) + "+" + again("[", 9) + "1" + again("]", 9), 32);
        law("bars if (1=1) and ((((((((2=2))))))))", -1);
        law("bars if (1=1 or [1]=1) and (((((((([2]=2))))))))", 35);
        law("sways [1];sways [[[[[[[[1]]]]]]]]", -1);
        due("what stands in eight", swayed("sways " + again("[", 8) + "7" + again("]", 8)), 7);
        due("what stands in eight", swayed("sways 7 if " + again("(", 8) + "1=2" + again(")", 8)), 6);
    }

    private static void bracketsOpenAndShut() {
        says("the first TOKEN that can't go on there (the end's: the TEXT's length)");
        law("sways [1", 8);
        law("sways [1;", 8);
        law("sways [1)", 8);
        law("sways [1]]", 9);
        law("sways []", 7);
        law("sways (1)", 6);
        law("bars if (1=1", 12);
        law("bars if (1=1]", 12);
        law("bars if (1=1))", 13);
        law("bars if ()", 9);
        law("bars if [1=1]", 10);
        law("bars if (1)=1", 10);
        law("bars if ([1])", 12);
        law("bars if (1=1)=1", 13);
        law("bars if [[1]=1]", 12);
        law("bars if not", 11);
        law("bars if not if", 12);
        law("bars if", 7);
        law("bars if or", 8);
        law("bars if 1=1 or", 14);
        law("bars if 1=1 and or", 16);
        law("bars if 1=1 not", 12);
        law("bars if 1", 9);
        law("bars if 1=", 10);
        law("bars if 1=1=1", 11);
        law("bars 1", 5);
        law("bars times 2", 5);
    }

    private static void theEndOfATextWithoutTokens() {
        says("-6 (blanks alone: FAULT at the end)");
        law("", 0);
        law(" ", 1);
        law(again(" ", 399), 399);
        law(again(" ", 400), 400);
        orders("", 0);
        orders(" ", 1);
        orders(again(" ", 399), 399);
        orders(again(" ", 400), 400);
    }

    private static void ordersWords() {
        says("the first TOKEN that can't go on there (the end's: the TEXT's length)");
        orders("move", 4);
        orders("move by", 5);
        orders("move 1", 6);
        orders("move 1 to 1", 7);
        orders("move 1 by", 9);
        orders("move 1 by 1 by", 12);
        orders("divide", 6);
        orders("divide 1 by 1", 9);
        orders("fly 1", 5);
        orders("fly 1 to", 8);
        orders("fly 1 by 1", 6);
        orders("pass pass", 5);
        orders("pass times", 10);
        orders("pass times 1 times 1", 13);
        orders("pass if 1=1 times 1", 12);
        orders("pass if 1=1 if 1=1", 12);
        orders("pass if", 7);
        orders("sways 1", 0);
        orders("bars", 0);
        orders("PASS", 0);
        law("pass", 0);
        law("divide 1", 0);
    }

    private static void times() {
        says("TIMES: a NUMBER 1 .. 20.");
        orders("pass times 0", 11);
        orders("pass times 1", -1);
        orders("pass times 20", -1);
        orders("pass times 21", 11);
        orders("pass times 1000", 11);
        orders("pass times 4294967297", 11);
        orders("pass times done", 11);
        orders("pass times [1]", 11);
        orders("pass times 1+1", 12);
        orders("divide 0 times 21", 15);
        orders("move 0 by 0 times 0", 18);
        orders("fly 0 to 0 times 21", 17);
        for (int n = 1; n <= 20; n++) {
            DarkCommittee x = new DarkCommittee();
            due("times " + n, orders(x, "pass times " + n), n);
            due("nights", x.count(14), n);
        }
        DarkCommittee x = new DarkCommittee();
        due("once without", orders(x, "pass"), 1);
        due("one night", x.count(14), 1);
    }

    private static void birdsAndMattersOfWords() {
        says("\"tree\" B | \"stands\" M (B: a NUMBER 0 .. 6, M: 0 .. 5)");
        for (int n = 0; n <= 8; n++) {
            orders("divide tree " + n, n <= 6 ? -1 : 12);
            orders("divide stands " + n, n <= 5 ? -1 : 14);
            orders("pass if tree " + n + " = 1", n <= 6 ? -1 : 13);
            orders("pass if stands " + n + " = 1", n <= 5 ? -1 : 15);
        }
        orders("divide tree 1000", 12);
        orders("divide tree 1001", 12);
        orders("divide tree 4294967296", 12);
        orders("divide stands 4294967296", 14);
        orders("divide tree", 11);
        orders("divide tree [1]", 12);
        orders("divide tree tree 1", 12);
        orders("divide stands done", 14);
        orders("divide tree -1", 12);
        law("sways tree 1", 11);
        law("sways stands 1", 6);
    }

    private static void wordsOfEachLanguage() {
        says("a word, as told");
        String[] both = {"clock", "night"};
        String[] laws = {"bird", "tree", "favour", "matter", "clauses", "rich", "mood"};
        String[] orders = {"done", "latest", "present"};
        String[] none = {"a", "z", "sways", "takes", "bars", "if", "not", "or", "and", "times", "by", "to", "move",
            "divide", "fly", "pass", "birds", "tre", "quorum", "dumb"};
        for (String word : both) {
            law("sways " + word, -1);
            orders("divide " + word, -1);
        }
        for (String word : laws) {
            law("sways " + word, -1);
            orders("divide " + word, word.equals("tree") ? 11 : 7);
        }
        for (String word : orders) {
            law("sways " + word, 6);
            orders("divide " + word, -1);
        }
        for (String word : none) {
            law("sways " + word, 6);
            orders("divide " + word, 7);
        }
    }

    /** Behind each TOKEN of a TEXT "?" can't go on; nor can the end, but where the TEXT may end: there "|" stands. */
    private static void eachPlace(boolean law, String text) {
        StringBuilder ahead = new StringBuilder();
        for (String token : text.split(" ")) {
            boolean mayEnd = token.endsWith("|");
            ahead.append(ahead.length() == 0 ? "" : " ").append(token, 0, token.length() - (mayEnd ? 1 : 0));
            int end = ahead.length();
            if (law) {
                law(ahead + " ?", end + 1);
                law(ahead.toString(), mayEnd ? -1 : end);
            } else {
                orders(ahead + " ?", end + 1);
                orders(ahead.toString(), mayEnd ? -1 : end);
            }
        }
    }

    private static void whereFaultsAre() {
        says("FAULT: the first TOKEN that can't go on there");
        eachPlace(true, "bars| if not ( 1 < 2 and [ rich + 3 ] * 4 > tree or favour = mood )| or 1 = 1| ; "
                + "takes 2| - 1| ; sways 5|");
        eachPlace(true, "sways clock| / [ night % 7 ]| if clauses = bird| and not not 1 > matter| ; bars|");
        eachPlace(false, "move 0 by [ 1 - 1 ]| times 2| if stands 0 = 0| ; divide stands 1| if ( done < 3 )| ; "
                + "fly tree 6 to 0| - 1| times 20|");
        eachPlace(false, "pass| times 3| if latest > 0| and clock < 48| or present = night| ; pass|");
    }
}
