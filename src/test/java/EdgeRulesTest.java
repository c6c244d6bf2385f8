/** Edges of ==== 2 and of promises 2 to 4: a test for each sentence that names one, under the sentence's own words. */
public final class EdgeRulesTest {
    private static final Due D = new Due();
    private static final String[] WORDS = {"score", "bar", "pay", "host", "or", "and", "not", "if", "sum", "max", "min", "count", "land", "day",
        "fare", "come", "home", "branch", "age", "means", "can", "regret", "miles", "times", "last", "people", "mine"};
    private static final String[] BETWEEN = {"+", "-", "*", "/", "%", "<", "<=", "=", "<>", ">", ">=", " and ", " or "};

    public static void main(String[] args) {
        tapeOfSixHundred();
        feedThatIsTooMuch();
        highestByteFirst();
        rulesOfNone();
        rulesOfTooMany();
        rulesOfAPart();
        tapeIsEmptyThen();
        rulesWithAFault();
        rulesBehindAFault();
        rulesFromNowOn();
        faultOfTheLatest();
        faultOfAnotherWhat();
        textOfManyLines();
        textThatIsEmpty();
        lineThatLacksItsEnd();
        lineThatLacksItsExpression();
        blanksTenAndThirtyTwo();
        wordsInARow();
        digitsInARow();
        signsThatTakeTheNext();
        orAndAnd();
        notOnlyAheadOfAComparison();
        oneComparison();
        signsAhead();
        brackets();
        heapsAndIf();
        tokensThatAreNone();
        theLengthIfMoreMustCome();
        numberAbove();
        ninthBracket();
        knotsOfTheText();
        knotsOneTooMany();
        whatIsNoKnot();
        fifthBar();
        lineToldAlready();
        namesThatCannotStand();
        heapWithinAHeap();
        firstAlongTheText();
        ofOnePlaceTheLeast();
        aheadOfWhatLacks();
        D.end();
    }

    private static void fault(String text, int fault, int place) {
        KinMeet x = new KinMeet();
        D.due(text + " answers", Due.rules(x, text) >= 0, fault == 0);
        D.due(text + " FAULT", x.fault(0), fault);
        D.due(text + " place", x.fault(1), place);
    }

    private static void good(String text) {
        fault(text, 0, -1);
    }

    private static String times(int n, String part) {
        return part.repeat(n);
    }

    /** An expression of so many KNOTS. */
    private static String knots(int n) {
        return n % 2 == 0 ? "-" + knots(n - 1) : times(n / 2, "1+") + "1";
    }

    private static void tapeOfSixHundred() {
        D.part("Promise 2: how many it has; NONE if it would have more than 600");
        KinMeet x = new KinMeet();
        for (int i = 1; i < 30; i++) {
            D.due("feed " + i, x.feed(0x20202020, 0x20202020, 0x20202020, 0x20202020, 0x20202020), 20 * i);
        }
        D.due("the 600th", x.feed(0x20202020, 0x20202020, 0x20202020, 0x20202020, 0x20202078), 600);
        D.due("beyond", x.feed(0x20202020, 0, 0, 0, 0), -1);
        D.due("601 aren't there", x.rules(601), -2);
        D.due("the last byte is one of them", x.rules(600), -1);
        D.due("its place", x.fault(1), 599);
        String full = "score " + times(592, " ") + "1;";
        D.due("a text of 600", Due.rules(x, full), 1);
        D.due("its KNOTS", x.count(9), 1);
    }

    private static void feedThatIsTooMuch() {
        D.part("Promise 2: NONE, and none come");
        KinMeet x = new KinMeet();
        Due.put(x, "score 7;" + times(592, " "));
        for (int i = 0; i < 5; i++) {
            D.due("beyond", x.feed(0x21212121, 0x21212121, 0x21212121, 0x21212121, 0x21212121), -1);
        }
        D.due("601 aren't there", x.rules(601), -2);
        D.due("620 aren't there", x.rules(620), -2);
        D.due("the 600 are as they were", x.rules(600), 1);
        x.option(0, 1);
        D.due("their VALUE", x.score(0), 7);
    }

    private static void highestByteFirst() {
        D.part("Promise 2: four of each number, the highest first");
        for (int at = 0; at < 20; at++) {
            KinMeet x = new KinMeet();
            int[] n = {0x20202020, 0x20202020, 0x20202020, 0x20202020, 0x20202020};
            n[at / 4] ^= (0x20 ^ 0xff) << 24 - at % 4 * 8;
            D.due("feed", x.feed(n[0], n[1], n[2], n[3], n[4]), 20);
            D.due("byte 255 at " + at, x.rules(20), -1);
            D.due("its FAULT", x.fault(0), 1);
            D.due("its place", x.fault(1), at);
        }
        KinMeet y = new KinMeet();
        y.feed(Integer.MIN_VALUE, 0, 0, 0, 0);
        D.due("byte 128", y.rules(1), -1);
        y.feed(0x0a0a0a80, 0, 0, 0, 0);
        D.due("three of 10", y.rules(3), 0);
    }

    private static void rulesOfNone() {
        D.part("Promise 3: n 0");
        KinMeet x = new KinMeet();
        D.due("of an empty TAPE", x.rules(0), 0);
        Due.rules(x, "bar 1;score 2;");
        D.due("KNOTS", x.count(9), 2);
        Due.put(x, "bad");
        D.due("none of what is there", x.rules(0), 0);
        D.due("no KNOTS", x.count(9), 0);
        D.due("no FAULT", x.fault(0), 0);
        D.due("the TAPE is empty then", x.rules(1), -2);
        x.option(0, 1);
        D.due("no bar", x.judged(0, 0), 0);
    }

    private static void rulesOfTooMany() {
        D.part("Promise 3: -2, and the TAPE stays: there are not so many, n is below 0");
        KinMeet x = new KinMeet();
        for (int n : new int[] {1, 600, -1, Integer.MIN_VALUE, Integer.MAX_VALUE}) {
            D.due("of an empty TAPE, " + n, x.rules(n), -2);
        }
        Due.put(x, "score 1+2; pay land;");
        for (int n : new int[] {21, 600, -1, Integer.MIN_VALUE, Integer.MAX_VALUE}) {
            D.due("rules(" + n + ")", x.rules(n), -2);
            D.due("RULES stay", x.count(9), 0);
        }
        D.due("all twenty", x.rules(20), 2);
        Due.put(x, "bad");
        D.due("too many", x.rules(21), -2);
        D.due("RULES stay", x.count(9), 4);
        D.due("the TAPE stays", x.feed(0x20202020, 0x20202020, 0x20202020, 0x20202020, 0x20202020), 40);
        D.due("too many", x.rules(41), -2);
        D.due("just so many", x.rules(40), -1);
        D.due("its place", x.fault(1), 0);
    }

    private static void rulesOfAPart() {
        D.part("Promise 3: The TAPE's first n bytes");
        String text = "score 12;bar 3;";
        int[][] due = {{0, 0, -1}, {4, 1, 0}, {5, 1, 5}, {6, 1, 6}, {7, 1, 7}, {8, 1, 8}, {9, 0, -1}, {10, 1, 9}, {12, 1, 12}, {14, 1, 14}, {15, 0, -1},
            {20, 0, -1}};
        for (int[] d : due) {
            KinMeet x = new KinMeet();
            Due.put(x, text);
            int lines = d[0] < 9 ? 0 : d[0] < 15 ? 1 : 2;
            D.due("rules(" + d[0] + ")", x.rules(d[0]), d[1] == 0 ? lines : -1);
            D.due("FAULT of " + d[0], x.fault(0), d[1]);
            D.due("place of " + d[0], x.fault(1), d[2]);
        }
        // a sign isn't taken from behind the part
        KinMeet y = new KinMeet();
        y.option(0, 1);
        Due.put(y, "score 1;<=>12345land");
        D.due("the part", y.rules(8), 1);
        D.due("its VALUE", y.score(0), 1);
    }

    private static void tapeIsEmptyThen() {
        D.part("Promise 3: it is empty then");
        KinMeet x = new KinMeet();
        Due.put(x, "score 1;");
        D.due("well", x.rules(8), 1);
        D.due("empty", x.rules(1), -2);
        D.due("empty", x.feed(0, 0, 0, 0, 0), 20);
        D.due("with a FAULT", x.rules(1), -1);
        D.due("empty", x.rules(1), -2);
        D.due("empty", x.feed(0, 0, 0, 0, 0), 20);
        D.due("by none", x.rules(0), 0);
        D.due("empty", x.feed(0, 0, 0, 0, 0), 20);
        D.due("-2 empties nothing", x.rules(-1), -2);
        D.due("not empty", x.feed(0, 0, 0, 0, 0), 40);
    }

    private static void rulesWithAFault() {
        D.part("Promise 3: NONE with a FAULT");
        KinMeet x = new KinMeet();
        x.option(0, 3);
        D.due("well", Due.rules(x, "score day*2;bar 0;"), 2);
        for (String text : new String[] {"score", "score 1", "bad;", "score 1000000;", "score 1;score 2;", "score mine;", "bar 1;bar 1;x"}) {
            D.due(text, Due.rules(x, text), -1);
            D.due("the KNOTS of those before", x.count(9), 4);
            D.due("their VALUE", x.score(0), 6);
            D.due("their bar", x.judged(0, 0), 0);
        }
    }

    private static void rulesBehindAFault() {
        D.part("Promise 3: a text that breaks off leaves nothing behind for the next one");
        for (String broken : new String[] {"score 1+(2*sum(3", "score ((((((((", "score ((((((((1 ?", "score sum(", "score sum(1 if", "score sum(1 if not",
            "bar 1;bar 2;bar 3;bar 4;?", "score 1+-", "score - - - -", "score not not", "score 1 and 2 or", "score 1<2", "pay 1;host 2;score 3;?", "score max(1)+min(2",
            "score " + times(59, "1+"), "bar " + times(110, "not "), "score " + times(100, "-"), "score sum(mine", "score sum(sum"}) {
            KinMeet x = new KinMeet();
            x.option(0, 1);
            D.due(broken, Due.rules(x, broken), -1);
            D.due("eight brackets", Due.rules(x, "bar 0;score ((((((((7))))))));"), 2);
            D.due("VALUE", x.score(0), 7);
            D.due("the bar's VALUE", x.judged(0, 0), 0);
            D.due("KNOTS", x.count(9), 2);
            D.due(broken, Due.rules(x, broken), -1);
            D.due("an if without a HEAP", Due.rules(x, "score 1 if 2;"), -1);
            D.due("place", x.fault(1), 8);
            D.due(broken, Due.rules(x, broken), -1);
            D.due("a NAME without a HEAP", Due.rules(x, "score regret;"), -1);
            D.due("FAULT", x.fault(0), 4);
            D.due(broken, Due.rules(x, broken), -1);
            D.due("a bracket that isn't open", Due.rules(x, "score 1);"), -1);
            D.due("place", x.fault(1), 7);
            D.due(broken, Due.rules(x, broken), -1);
            D.due("a whole text", Due.rules(x, "bar 1;bar 1;bar 1;score 1+" + knots(110) + ";pay 1;host 1;bar 1;"), 7);
            D.due("KNOTS", x.count(9), 118);
        }
    }

    private static void rulesFromNowOn() {
        D.part("Promise 3: are the RULES from now on: how many LINES");
        KinMeet x = new KinMeet();
        x.option(0, 3);
        D.due("one", Due.rules(x, "bar 1;"), 1);
        D.due("out", x.judged(0, 0), 1);
        D.due("another one", Due.rules(x, "score 8;"), 1);
        D.due("the bar is gone", x.judged(0, 0), 0);
        D.due("the score is there", x.score(0), 8);
        D.due("none", Due.rules(x, ""), 0);
        D.due("the score is gone", x.score(0), 0);
    }

    private static void faultOfTheLatest() {
        D.part("Promise 4: Of the latest rules() that was not -2: its FAULT (0), its place (NONE without)");
        KinMeet x = new KinMeet();
        D.due("none was", x.fault(0), 0);
        D.due("none was", x.fault(1), -1);
        x.rules(-1);
        D.due("-2", x.fault(0), 0);
        D.due("-2", x.fault(1), -1);
        Due.rules(x, "score mine;");
        D.due("FAULT", x.fault(0), 4);
        D.due("place", x.fault(1), 6);
        x.rules(-1);
        x.rules(601);
        D.due("-2 leaves it", x.fault(0), 4);
        D.due("-2 leaves it", x.fault(1), 6);
        Due.rules(x, "?");
        D.due("the latest", x.fault(0), 1);
        D.due("place 0", x.fault(1), 0);
        Due.rules(x, "score 1;");
        D.due("none", x.fault(0), 0);
        D.due("none", x.fault(1), -1);
    }

    private static void faultOfAnotherWhat() {
        D.part("Promise 4: NONE for another what");
        KinMeet x = new KinMeet();
        Due.rules(x, "score mine;");
        for (int w : new int[] {-1, 2, 3, Integer.MIN_VALUE, Integer.MAX_VALUE}) {
            D.due("fault(" + w + ")", x.fault(w), -1);
        }
    }

    private static void textOfManyLines() {
        D.part("TEXT: { LINE ';' }");
        KinMeet x = new KinMeet();
        String text = "";
        int lines = 0;
        for (String line : new String[] {"bar 1;", "score 1;", "bar 2;", "host 1;", "bar 3;", "pay 1;", "bar 4;"}) {
            text += line;
            D.due(text, Due.rules(x, text), ++lines);
            D.due("KNOTS", x.count(9), lines);
        }
        good("score1;bar2;pay(3);host-4;");
        fault("score 1;;", 1, 8);
        fault(";", 1, 0);
        fault("score 1;1;", 1, 8);
    }

    private static void textThatIsEmpty() {
        D.part("TEXT: without a LINE");
        KinMeet x = new KinMeet();
        for (String text : new String[] {"", " ", "\n", " \n\n  \n" + times(100, " ")}) {
            D.due("LINES", Due.rules(x, text), 0);
            D.due("FAULT", x.fault(0), 0);
            D.due("place", x.fault(1), -1);
            D.due("KNOTS", x.count(9), 0);
        }
    }

    private static void lineThatLacksItsEnd() {
        D.part("TEXT: a LINE without its ';'");
        fault("score 1", 1, 7);
        fault("score 1  \n", 1, 10);
        fault("score 1;bar 2", 1, 13);
        fault("score 1 bar 2;", 1, 8);
        fault("score 1)", 1, 7);
    }

    private static void lineThatLacksItsExpression() {
        D.part("LINE: score E | bar E | pay E | host E");
        for (String word : new String[] {"score", "bar", "pay", "host"}) {
            fault(word + ";", 1, word.length());
            fault(word + " ;", 1, word.length() + 1);
            fault(word, 1, word.length());
            fault(word + " ", 1, word.length() + 1);
            fault(word + " " + word + " 1;", 1, word.length() + 1);
            good(word + " 1;");
        }
        for (String word : WORDS) {
            if (!"score bar pay host".contains(word) || word.equals("or")) {
                fault(word + " 1;", 1, 0);
            }
        }
        fault("1;", 1, 0);
        fault("(score 1);", 1, 0);
        fault("-score 1;", 1, 0);
    }

    private static void blanksTenAndThirtyTwo() {
        D.part("Blanks 10, 32; a TOKEN that is none");
        for (int c = 0; c < 256; c++) {
            String text = "score " + (char) c + "1;";
            if (c == 10 || c == 32 || c == '-' || (c >= '0' && c <= '9')) {
                good(text);
            } else if (c == '(') {
                fault(text, 1, 8);
            } else {
                fault(text, 1, 6);
            }
        }
        good("\n\nscore\n\n1\n;\n\n");
        good("  score  1  ;  ");
        fault("sc ore 1;", 1, 0);
        fault("score 1 0;", 1, 8);
        fault("score\n1\n0;", 1, 8);
    }

    private static void wordsInARow() {
        D.part("Words and NAMES are small letters in a row; another word, too");
        for (String word : WORDS) {
            for (String letter : new String[] {"a", "k", "x", "z"}) {
                fault("score " + word + letter + ";", 1, 6);
                fault("score " + letter + word + ";", 1, 6);
                fault("score " + word + letter, 1, 6);
            }
            fault("score " + word + word + ";", 1, 6);
            fault("score " + word.toUpperCase() + ";", 1, 6);
            if (!word.equals("mine")) {
                fault("score " + word.substring(0, word.length() - 1) + " 1;", 1, 6);
            }
            fault("score " + word.substring(1) + " 1;", 1, 6);
        }
        // 'min' is a word; more than its letters must come
        fault("score min 1;", 1, 10);
        fault("score mi", 1, 6);
        fault("score a;", 1, 6);
        fault("score z;", 1, 6);
        fault("scoreland;", 1, 0);
        fault("score landcome;", 1, 6);
        good("score land+come;");
        good("score not(land)or(come);");
        good("score 1and 2or 3;");
        fault("score 1and2or3;land", 1, 15);
        fault("score notland;", 1, 6);
        fault("score not1;x", 1, 11);
        // the signs beside 'a' and 'z'
        fault("score land`;", 1, 10);
        fault("score land{;", 1, 10);
        fault("score day_;", 1, 9);
    }

    private static void digitsInARow() {
        D.part("NUMBERS digits");
        good("score 0;");
        good("score 9;");
        good("score 000000000000000000000000000000000000;");
        good("score 0000000000000999999;");
        fault("score 1/;", 1, 8);
        fault("score 1:;", 1, 7);
        fault("score 1.5;", 1, 7);
        fault("score 1x;", 1, 7);
        fault("score 1land;", 1, 7);
        fault("score 0x1;", 1, 7);
        KinMeet x = new KinMeet();
        x.option(0, 1);
        for (int n : new int[] {0, 1, 9, 10, 99, 100, 12345, 987654, 999999}) {
            Due.rules(x, "score 000" + n + ";");
            D.due("VALUE of " + n, x.score(0), n);
        }
    }

    private static void signsThatTakeTheNext() {
        D.part("< and > take a = (or > behind <) that stands right behind");
        for (String sign : new String[] {"<", "<=", "=", "<>", ">", ">="}) {
            good("score 1" + sign + "2;");
            good("score 1 " + sign + " 2;");
            good("score 1" + sign + "\n2;");
        }
        fault("score 1< =2;", 1, 9);
        fault("score 1> =2;", 1, 9);
        fault("score 1< >2;", 1, 9);
        fault("score 1<\n=2;", 1, 9);
        fault("score 1><2;", 1, 8);
        fault("score 1>>2;", 1, 8);
        fault("score 1=>2;", 1, 8);
        fault("score 1=<2;", 1, 8);
        fault("score 1==2;", 1, 8);
        fault("score 1<<2;", 1, 8);
        fault("score 1<=>2;", 1, 9);
        fault("score 1<>=2;", 1, 9);
        fault("score 1>=<2;", 1, 9);
        fault("score 1<>>2;", 1, 9);
        fault("score 1<", 1, 8);
        fault("score 1<=", 1, 9);
        // what stands behind the text isn't taken
        KinMeet x = new KinMeet();
        Due.put(x, "score 1<=2;");
        D.due("cut behind <", x.rules(8), -1);
        D.due("its place", x.fault(1), 8);
    }

    private static void orAndAnd() {
        D.part("E: A { or A }. A: N { and N }");
        good("score 1;");
        good("score 1 or 2;");
        good("score 1 and 2;");
        good("score 1 or 2 or 3 and 4 and 5 or 6;");
        fault("score or 1;", 1, 6);
        fault("score and 1;", 1, 6);
        fault("score 1 or;", 1, 10);
        fault("score 1 and;", 1, 11);
        fault("score 1 or or 2;", 1, 11);
        fault("score 1 and or 2;", 1, 12);
        fault("score 1 or and 2;", 1, 11);
        fault("score 1 or", 1, 10);
    }

    private static void notOnlyAheadOfAComparison() {
        D.part("N: not N | C");
        good("score not 1;");
        good("score not not not 1;");
        good("score 1 and not 2 or not 3;");
        good("score (not 1);");
        good("score sum(not 1 if not 2);");
        good("score not 1<2;");
        good("score not(not 1)=2;");
        fault("score not;", 1, 9);
        fault("score not not;", 1, 13);
        fault("score 1 not;", 1, 8);
        for (String sign : new String[] {"+", "-", "*", "/", "%", "<", "<=", "=", "<>", ">", ">="}) {
            fault("score 1" + sign + "not 2;", 1, 7 + sign.length());
            good("score 1" + sign + "(not 2);");
        }
        fault("score -not 1;", 1, 7);
        fault("score not - not 1;", 1, 12);
    }

    private static void oneComparison() {
        D.part("C: S [ ( < | <= | = | <> | > | >= ) S ]");
        String[] signs = {"<", "<=", "=", "<>", ">", ">="};
        for (String first : signs) {
            for (String second : signs) {
                int place = 6 + 1 + first.length() + 1;
                fault("score 1" + first + "2" + second + "3;", 1, place);
                good("score (1" + first + "2)" + second + "3;");
                good("score 1" + first + "(2" + second + "3);");
                good("score 1" + first + "2 and 3" + second + "4;");
            }
        }
        fault("score 1<2+3*4<5;", 1, 13);
        fault("score not 1<2<3;", 1, 13);
        fault("score (1<2<3);", 1, 10);
        fault("score sum(1<2<3);", 1, 13);
        good("score sum(1<2 if 3<4)<5;");
        fault("score <1;", 1, 6);
        fault("score 1<;", 1, 8);
        fault("score (1<);", 1, 9);
    }

    private static void signsAhead() {
        D.part("U: - U | P");
        good("score -1;");
        good("score ----1;");
        good("score 1- - -1;");
        good("score 1*-2/-3%-land;");
        good("score -(-1);");
        good("score -sum(1);");
        fault("score +1;", 1, 6);
        fault("score *1;", 1, 6);
        fault("score -;", 1, 7);
        fault("score --;", 1, 8);
        fault("score 1-;", 1, 8);
        fault("score 1+*2;", 1, 8);
        fault("score 1+;", 1, 8);
        fault("score 1 -", 1, 9);
    }

    private static void brackets() {
        D.part("P: '(' E ')'");
        good("score (1);");
        good("score ((((1))));");
        good("score (1 or 2);");
        fault("score ();", 1, 7);
        fault("score (;", 1, 7);
        fault("score );", 1, 6);
        fault("score (1;", 1, 8);
        fault("score 1);", 1, 7);
        fault("score (1));", 1, 9);
        fault("score (1)(2);", 1, 9);
        fault("score (1)2;", 1, 9);
        fault("score 1(2);", 1, 7);
        fault("score (1 2);", 1, 9);
        fault("score ((1);", 1, 10);
        fault("score (1", 1, 8);
    }

    private static void heapsAndIf() {
        D.part("( sum | max | min ) '(' E [ if E ] ')' | count '(' E ')'");
        for (String heap : new String[] {"sum", "max", "min", "count"}) {
            int n = 6 + heap.length();
            boolean tests = !heap.equals("count");
            good("score " + heap + "(1);");
            good("score " + heap + "\n (1);");
            fault("score " + heap + ";", 1, n);
            fault("score " + heap + " 1;", 1, n + 1);
            fault("score " + heap + "-(1);", 1, n);
            fault("score " + heap + "();", 1, n + 1);
            fault("score " + heap + "(1;", 1, n + 2);
            fault("score " + heap, 1, n);
            fault("score " + heap + "(", 1, n + 1);
            fault("score " + heap + "(1", 1, n + 2);
            fault("score " + heap + "(1 if 2);", tests ? 0 : 1, tests ? -1 : n + 3);
            fault("score " + heap + "((1) if (2));", tests ? 0 : 1, tests ? -1 : n + 5);
            fault("score " + heap + "(if 2);", 1, n + 1);
            fault("score " + heap + "(1 if);", 1, tests ? n + 5 : n + 3);
            fault("score " + heap + "(1 if 2 if 3);", 1, tests ? n + 8 : n + 3);
            fault("score " + heap + "((1 if 2));", 1, n + 4);
            fault("score " + heap + "(1 if (2 if 3));", 1, tests ? n + 9 : n + 3);
        }
        fault("score 1 if 2;", 1, 8);
        fault("score (1 if 2);", 1, 9);
        fault("score sum(1) if 2;", 1, 13);
        fault("score if 1;", 1, 6);
        good("score sum(1 if 2)+max(3 if 4);");
        fault("score sum(1)+(2 if 3);", 1, 16);
    }

    private static void tokensThatAreNone() {
        D.part("FAULT 1: a TOKEN that is none or can't stand there");
        fault("!", 1, 0);
        fault(" !", 1, 1);
        fault("\n\n!", 1, 2);
        fault("score 1;!", 1, 8);
        fault("score 1;  \n!", 1, 11);
        fault("score 1!;", 1, 7);
        fault("score 1 !;", 1, 8);
        fault("score 1+!;", 1, 8);
        fault("score (1!);", 1, 8);
        fault("score sum!(1);", 1, 9);
        fault("score \t1;", 1, 6);
        fault("score 1" + (char) 255 + ";", 1, 7);
        fault("" + (char) 0, 1, 0);
        fault("score foo;", 1, 6);
        fault("score 1 foo;", 1, 8);
        fault("foo", 1, 0);
    }

    private static void theLengthIfMoreMustCome() {
        D.part("FAULT 1: the length, if more must come");
        for (String text : new String[] {"score", "score ", "score 1", "score 1 ", "score -", "score 1+", "score not", "score (", "score (1", "score sum",
            "score sum(", "score sum(1", "score sum(1 if", "score sum(1 if 2", "score sum(1)", "score 1<", "score 1 and", "score 1;bar"}) {
            for (String blanks : new String[] {"", " ", "\n", "   \n"}) {
                fault(text + blanks, 1, text.length() + blanks.length());
            }
        }
        fault("score " + times(593, " ") + "1", 1, 600);
        KinMeet x = new KinMeet();
        Due.put(x, "score 1+2;");
        D.due("the length of the part", x.rules(8), -1);
        D.due("FAULT", x.fault(0), 1);
        D.due("place", x.fault(1), 8);
    }

    private static void numberAbove() {
        D.part("FAULT 2 (at it): a NUMBER above 999999");
        good("score 999998;");
        good("score 999999;");
        fault("score 1000000;", 2, 6);
        fault("score 1000001;", 2, 6);
        fault("score 0001000000;", 2, 6);
        good("score 0000999999;");
        for (String n : new String[] {"2147483647", "2147483648", "4294967295", "4294967296", "4294967297", "9999999999", "9223372036854775808",
            "18446744073709551616", "18446744073709551617", "10000000000000000000000000000000", times(500, "9")}) {
            fault("score " + n + ";", 2, 6);
            fault("score 1+" + n, 2, 8);
        }
        fault("score -1000000;", 2, 7);
        fault("bar 1; bar 1000000 foo", 2, 11);
    }

    private static void ninthBracket() {
        D.part("FAULT 2 (at it): a ninth '(' that is open");
        for (int n = 1; n <= 8; n++) {
            good("score " + times(n, "(") + "1" + times(n, ")") + ";");
        }
        fault("score " + times(9, "(") + "1" + times(9, ")") + ";", 2, 14);
        fault("score " + times(20, "("), 2, 14);
        fault("score " + times(9, "( ") + "1", 2, 6 + 16);
        // those of HEAPS are some of them
        good("score " + times(7, "(") + "sum(1)" + times(7, ")") + ";");
        fault("score " + times(8, "(") + "sum(1)" + times(8, ")") + ";", 2, 17);
        good("score sum(" + times(7, "(") + "1" + times(7, ")") + ");");
        fault("score sum(" + times(8, "(") + "1" + times(8, ")") + ");", 2, 17);
        good("score sum(" + times(7, "(") + "1" + times(7, ")") + " if " + times(7, "(") + "1" + times(7, ")") + ");");
        fault("score sum(" + times(7, "(") + "1" + times(7, ")") + " if " + times(8, "("), 2, 6 + 4 + 15 + 4 + 7);
        // those that are closed aren't open
        String eight = times(8, "(") + "1" + times(8, ")");
        good("score " + eight + "+" + eight + "+" + eight + ";bar " + eight + ";");
        good("score (" + times(20, "(1)+") + "1);");
        good("score " + times(7, "(") + times(20, "(1)+") + "1" + times(7, ")") + ";");
        fault("score " + eight + "+" + times(9, "("), 2, 6 + 17 + 1 + 8);
        fault("score " + times(8, "(") + "1)+((2", 2, 6 + 8 + 3 + 1);
    }

    private static void knotsOfTheText() {
        D.part("a 121st KNOT of the whole text: 120 may be");
        KinMeet x = new KinMeet();
        for (int n = 1; n <= 120; n++) {
            if (n < 4 || n > 117 || n == 60) {
                D.due(n + " KNOTS", Due.rules(x, "score " + knots(n) + ";"), 1);
                D.due("count(9)", x.count(9), n);
            }
        }
        // of each kind: the 119th and 120th, or the last three
        for (String last : new String[] {"-1", "not 1", "sum(1)", "max(1)", "min(1)", "count(1)", "-land", "not come"}) {
            D.due(last, Due.rules(x, "score " + knots(118) + ";bar " + last + ";"), 2);
            D.due("count(9)", x.count(9), 120);
        }
        for (String sign : BETWEEN) {
            D.due(sign, Due.rules(x, "score " + knots(117) + ";bar 1" + sign + "2;"), 2);
            D.due("count(9)", x.count(9), 120);
        }
        for (String last : new String[] {"1", "land", "regret"}) {
            D.due(last, Due.rules(x, "score " + knots(119) + ";pay " + last + ";"), 2);
            D.due("count(9)", x.count(9), 120);
        }
        D.due("over many LINES", Due.rules(x, "score " + knots(50) + ";pay " + knots(20) + ";host " + knots(49) + ";bar 1;"), 4);
        D.due("count(9)", x.count(9), 120);
    }

    private static void knotsOneTooMany() {
        D.part("FAULT 2: a 121st KNOT, at its own TOKEN, as it is read");
        String full = "score " + knots(120) + ";";
        int n = full.length();
        for (String one : new String[] {"1", "0", "regret", "land", "sum(1)", "max(1)", "min(1)", "count(1)", "not 1", "-1"}) {
            fault(full + "pay " + one + ";", 2, n + 4);
            fault(full + "pay (" + one + ");", 2, n + 5);
        }
        for (String one : new String[] {"1", "regret", "land", "sum", "max", "min", "count", "not", "-"}) {
            fault(full + "pay " + one, 2, n + 4);
        }
        for (String sign : BETWEEN) {
            String text = "score " + knots(120) + sign + "1;";
            fault(text, 2, n - 1 + (sign.startsWith(" ") ? 1 : 0));
        }
        // ahead of the NUMBER stands the sign that is the 121st
        fault("score " + knots(119) + ";pay -1;", 2, "score ".length() + knots(119).length() + 1 + 5);
        fault("score " + knots(119) + ";pay sum(1);", 2, "score ".length() + knots(119).length() + 1 + 8);
        fault("score " + knots(119) + ";pay 1 or 2;", 2, "score ".length() + knots(119).length() + 1 + 6);
        fault("bar 1;score " + knots(119) + ";host 1;", 2, "bar 1;score ".length() + knots(119).length() + 1 + 5);
    }

    private static void whatIsNoKnot() {
        D.part("KNOTS: each NUMBER, NAME, HEAP, not, and, or, sign between or ahead is one");
        KinMeet x = new KinMeet();
        String[] texts = {"score 1;", "score land;", "score (((1)));", "score -1;", "score not 1;", "score 1 and 2;", "score 1 or 2;", "score 1+2;", "score 1<>2;",
            "score sum(1);", "score sum(1 if 2);", "score count(1);", "bar 1;bar 2;", "score --1;", "score not not 1;", "score sum((can) if (regret<=2));"};
        int[] due = {1, 1, 1, 2, 2, 3, 3, 3, 3, 2, 3, 2, 2, 3, 3, 5};
        for (int i = 0; i < texts.length; i++) {
            D.due("RULES", Due.rules(x, texts[i]) > 0, true);
            D.due("KNOTS of " + texts[i], x.count(9), due[i]);
        }
        // a full text takes what is none
        good("score ((" + knots(120) + "));");
        good("score " + knots(117) + ";bar sum(1 if 2);");
        fault("score " + knots(120) + ";foo", 1, ("score " + knots(120) + ";").length());
        fault("score " + knots(120) + ";score", 3, ("score " + knots(120) + ";").length());
        fault("score " + knots(120) + ";pay", 1, ("score " + knots(120) + ";pay").length());
    }

    private static void fifthBar() {
        D.part("FAULT 2 (at it): a fifth bar");
        good("bar 1;bar 2;bar 3;bar 4;");
        good("bar 1;bar 2;bar 3;bar 4;score 1;pay 1;host 1;");
        fault("bar 1;bar 2;bar 3;bar 4;score 1;pay 1;host 1;bar 5;", 2, 45);
        fault("bar 1;bar 2;bar 3;bar 4;score 1;pay 1;host 1;pay 2;", 3, 45);
        fault("bar 1;bar 2;bar 3;bar 4;bar 5;", 2, 24);
        fault("bar 1;bar 2;bar 3;bar 4;bar", 2, 24);
        fault("bar 1;score 9;bar 2;pay 1;bar 3;host 1;bar 4;  bar", 2, 47);
        fault("bar 1;bar 2;bar 3;bar 4 bar 5;", 1, 24);
        // what came before is counted anew each time
        KinMeet x = new KinMeet();
        for (int i = 0; i < 4; i++) {
            D.due("three", Due.rules(x, "bar 1;bar 2;bar 3;"), 3);
            D.due("a FAULT", Due.rules(x, "bar 1;bar 2;bar 3;bar 4;?"), -1);
        }
    }

    private static void lineToldAlready() {
        D.part("FAULT 3: a LINE of score, pay, host told already (at its word)");
        for (String word : new String[] {"score", "pay", "host"}) {
            int n = word.length();
            fault(word + " 1;" + word + " 2;", 3, n + 3);
            fault(word + " 1; " + word, 3, n + 4);
            fault(word + " 1;bar 1;" + word + " !;", 3, n + 9);
            fault(word + " 1;" + word + ";", 3, n + 3);
            fault(word + " 1;" + word + "x", 1, n + 3);
            fault(word + " " + word, 1, n + 1);
        }
        good("score 1;pay 1;host 1;bar 1;bar 1;");
        // each text for itself
        KinMeet x = new KinMeet();
        D.due("once", Due.rules(x, "score 1;"), 1);
        D.due("once more", Due.rules(x, "score 1;"), 1);
        D.due("a FAULT", Due.rules(x, "pay 1;host 1;?"), -1);
        D.due("then these", Due.rules(x, "pay 1;host 1;"), 2);
    }

    private static void namesThatCannotStand() {
        D.part("FAULT 4: a NAME that can't stand there by what was said");
        String option = "land day fare come";
        String kin = "home branch age means can regret miles";
        String branch = "times last people";
        String hostKin = "home branch age means mine";
        for (String line : new String[] {"score", "bar", "pay", "host"}) {
            for (String name : (option + " " + kin + " " + branch + " mine").split(" ")) {
                boolean ofOption = option.contains(name);
                boolean ofKin = (" " + kin + " ").contains(" " + name + " ");
                boolean ofBranch = branch.contains(name);
                boolean host = line.equals("host");
                boolean outside = host ? ofBranch : ofOption || (line.equals("pay") && ofKin);
                boolean inside = host ? ofBranch || hostKin.contains(name) : ofOption || ofKin;
                int n = line.length() + 1;
                fault(line + " " + name + ";", outside ? 0 : 4, outside ? -1 : n);
                fault(line + " 1+(" + name + ");", outside ? 0 : 4, outside ? -1 : n + 3);
                fault(line + " sum(" + name + ");", inside ? 0 : 4, inside ? -1 : n + 4);
                fault(line + " count(not(" + name + "));", inside ? 0 : 4, inside ? -1 : n + 10);
                fault(line + " min(1 if " + name + ");", inside ? 0 : 4, inside ? -1 : n + 9);
                fault(line + " max(1)+" + name + ";", outside ? 0 : 4, outside ? -1 : n + 7);
            }
        }
    }

    private static void heapWithinAHeap() {
        D.part("No HEAP within a HEAP: FAULT 4");
        String[] heaps = {"sum", "max", "min", "count"};
        for (String line : new String[] {"score", "bar", "pay", "host"}) {
            for (String outer : heaps) {
                for (String inner : heaps) {
                    int n = line.length() + 1 + outer.length() + 1;
                    fault(line + " " + outer + "(" + inner + "(1));", 4, n);
                    fault(line + " " + outer + "((1+" + inner + "(1)));", 4, n + 3);
                    good(line + " " + outer + "(1)+" + inner + "(1);");
                    good(line + " (" + outer + "(1)+(" + inner + "(1)));");
                }
                if (!outer.equals("count")) {
                    fault(line + " " + outer + "(1 if sum(1));", 4, line.length() + 1 + outer.length() + 6);
                }
            }
        }
        good("score sum(1);bar sum(1);pay sum(1);host sum(1);");
    }

    private static void firstAlongTheText() {
        D.part("FAULTS, the first along the text");
        fault("score mine+1000000;score 1;?", 4, 6);
        fault("score 1000000+mine;score 1;?", 2, 6);
        fault("score 1;score mine+1000000;?", 3, 8);
        fault("score ?;score 1;", 1, 6);
        fault("score 1;bar ((((((((((mine", 2, 20);
        fault("score 1;bar mine((((((((((", 4, 12);
        fault("bar 1;bar 1;bar 1;bar mine;bar 1;", 4, 22);
        fault("bar 1;bar 1;bar 1;bar 1;bar mine;", 2, 24);
        fault("score 1;pay sum(sum(1000000;", 4, 16);
        fault("score 1;pay sum(1000000;sum", 2, 16);
    }

    private static void ofOnePlaceTheLeast() {
        D.part("FAULTS: of one place the least");
        String full = "score " + knots(120) + ";";
        String less = "score " + knots(119) + ";";
        // 1 goes ahead of 2
        fault("score 1 1000000;", 1, 8);
        fault("score " + times(8, "(") + "1(", 1, 15);
        fault(full + "pay +1;", 1, full.length() + 4);
        fault(full + "pay *1;", 1, full.length() + 4);
        fault(full + "pay or;", 1, full.length() + 4);
        fault(full + "1", 1, full.length());
        fault(full + "land", 1, full.length());
        fault(full + "sum", 1, full.length());
        fault(full + "pay foo;", 1, full.length() + 4);
        fault("score " + knots(120) + " 1;", 1, full.length());
        fault("score " + knots(120) + " not 1;", 1, full.length());
        fault("score " + knots(120) + " sum(1);", 1, full.length());
        fault(less + "pay -not 1;", 1, less.length() + 5);
        fault("score " + knots(117) + ";bar 1<2<3;", 1, 6 + knots(117).length() + 1 + 7);
        // 2 goes ahead of 4
        fault(full + "pay mine;", 2, full.length() + 4);
        fault(full + "pay times;", 2, full.length() + 4);
        fault(less + "pay sum(sum(1));", 2, less.length() + 8);
        fault(less + "pay sum(mine);", 2, less.length() + 8);
        // 1 goes ahead of 3 and of 4
        fault("score 1 score 1;", 1, 8);
        fault("score score", 1, 6);
        fault("score 1 mine;", 1, 8);
        fault("mine", 1, 0);
        fault("score sum(1 sum(1));", 1, 12);
        fault("score sum(1)sum(1);", 1, 12);
        fault("score sum sum(1);", 1, 10);
        fault("score sum mine;", 1, 10);
    }

    private static void aheadOfWhatLacks() {
        D.part("FAULTS 2, 3, 4: at it; ahead of what lacks behind it");
        fault("score mine", 4, 6);
        fault("score home", 4, 6);
        fault("score home!", 4, 6);
        fault("score home home", 4, 6);
        fault("host land)", 4, 5);
        fault("score sum(sum", 4, 10);
        fault("score sum(sum!", 4, 10);
        fault("score sum(sum)", 4, 10);
        fault("score sum(1 if count", 4, 15);
        fault("score sum(times", 4, 10);
        fault("score 1000000", 2, 6);
        fault("score 1000000 1000000", 2, 6);
        fault("score " + times(9, "("), 2, 14);
        fault("bar 1;bar 1;bar 1;bar 1;bar", 2, 24);
        fault("score 1;score", 3, 8);
        fault("pay 1;pay pay", 3, 6);
        fault("score " + knots(120) + "+", 2, 6 + knots(120).length());
        fault("score " + knots(120) + ";pay not", 2, 6 + knots(120).length() + 5);
        fault("score " + knots(120) + ";pay sum", 2, 6 + knots(120).length() + 5);
    }
}
