/** Edges of VALUES, ERRORS and HEAPS in ==== 2: a test for each sentence that names one, under the sentence's own words. */
public final class EdgeValuesTest {
    private static final Due D = new Due();
    private static final long MOST = 1000000000000L;
    private static final long ERROR = Long.MIN_VALUE;
    /** Ten to the 12. */
    private static final String BIG = "(100000*10000*1000)";

    public static void main(String[] args) {
        numbers();
        truths();
        comparisons();
        sideNotWorkedOut();
        sideWorkedOut();
        divided();
        left();
        byZero();
        addedToTheMost();
        takenToTheLeast();
        multiplied();
        productsTooLongForALong();
        signAheadOfTheMost();
        errorOnTheWay();
        errorOfAPart();
        heapsOfNone();
        heapsOfOne();
        heapsWithIf();
        heapsOfAliveOnes();
        ageWithoutANote();
        sumAsItGoes();
        heapsAtTheMost();
        errorWithinAHeap();
        heapsOneAfterAnother();
        errorOfEachLine();
        knotsAllWorkedOut();
        D.end();
    }

    /** An option of land 0 and day 1, and kin with these means. */
    private static KinMeet withMeans(int... means) {
        KinMeet x = new KinMeet();
        for (int m : means) {
            x.kin(0, 0, m, 0, false);
        }
        x.option(0, 1);
        return x;
    }

    private static void value(KinMeet x, String e, long due) {
        D.due("RULES of " + e, Due.rules(x, "score " + e + ";"), 1);
        D.due("VALUE of " + e, x.score(0), due);
    }

    private static void value(String e, long due) {
        value(withMeans(), e, due);
    }

    private static void numbers() {
        D.part("VALUES: NUMBERS");
        value("0", 0);
        value("1", 1);
        value("999999", 999999);
        value("-999999", -999999);
        value("-0", 0);
        value("007", 7);
    }

    private static void truths() {
        D.part("and, or, not are 1 or 0 (what isn't 0 is as 1)");
        for (String t : new String[] {"1", "2", "-1", "999999", "-999999", BIG, "-" + BIG}) {
            value("not " + t, 0);
            value("not not " + t, 1);
            value(t + " or 0", 1);
            value("0 or " + t, 1);
            value(t + " and " + t, 1);
            value(t + " and 0", 0);
            value("0 and " + t, 0);
        }
        value("not 0", 1);
        value("not -0", 1);
        value("0 or 0", 0);
        value("0 and 0", 0);
        value("1-1 or 2-2", 0);
        value("0 or 0 or 0 or 5", 1);
        value("5 and 5 and 5 and 0", 0);
        value("(3 and 4)+(0 or 7)*10", 11);
    }

    private static void comparisons() {
        D.part("comparisons are 1 or 0");
        String[] signs = {"<", "<=", "=", "<>", ">", ">="};
        int[][] due = {{1, 1, 0, 1, 0, 0}, {0, 1, 1, 0, 0, 1}, {0, 0, 0, 1, 1, 1}};
        String[] pairs = {"4#5", "5#5", "6#5", "-6#-5", "-5#-5", "-4#-5", "-1#0", "0#0", "0#-1", BIG + "-1#" + BIG, BIG + "#" + BIG, BIG + "#" + BIG + "-1",
            "-" + BIG + "#" + BIG, "0#-0", BIG + "#-" + BIG};
        for (int p = 0; p < pairs.length; p++) {
            for (int s = 0; s < signs.length; s++) {
                value(pairs[p].replace("#", signs[s]), due[p % 3][s]);
            }
        }
    }

    private static void sideNotWorkedOut() {
        D.part("the right side of and, or isn't worked out if the left one tells");
        for (String bad : new String[] {"1/0", "1%0", BIG + "+1", "sum(1/0)+1/0", "not 1/0", "(1/0)"}) {
            value("0 and " + bad, 0);
            value("1 or " + bad, 1);
            value("-3 or " + bad, 1);
            value("0 and (" + bad + ") or 0", 0);
            value("1 or (" + bad + ") and (" + bad + ")", 1);
            value("0 and 1 and (" + bad + ")", 0);
            value("0 or 5 or (" + bad + ")", 1);
            value("(0 and (" + bad + "))+7", 7);
            value("not (1 or (" + bad + "))", 0);
        }
        value("0 and 1/0 and 1/0 and 1/0", 0);
        value("1 and 0 and 1/0", 0);
        value("0 and 1/0 or 1 or 1/0", 1);
    }

    private static void sideWorkedOut() {
        D.part("the right side is worked out if the left one doesn't tell");
        value("1 and 1/0", ERROR);
        value("-1 and 1/0", ERROR);
        value("0 or 1/0", ERROR);
        value("0 or 0 or 1/0", ERROR);
        value("1 and 1 and 1/0", ERROR);
        value("0 and 1/0 or 1/0", ERROR);
        value("1/0 or 1", ERROR);
        value("1/0 and 0", ERROR);
        value("0 or (1 and (0 or 1/0))", ERROR);
    }

    private static void divided() {
        D.part("/ towards 0");
        int[][] due = {{7, 2, 3}, {-7, 2, -3}, {7, -2, -3}, {-7, -2, 3}, {6, 2, 3}, {-6, 2, -3}, {1, 2, 0}, {-1, 2, 0}, {1, -2, 0}, {0, 5, 0}, {0, -5, 0},
            {5, 1, 5}, {5, -1, -5}, {5, 5, 1}, {4, 5, 0}, {-4, 5, 0}, {-5, 5, -1}, {999999, 1000, 999}};
        for (int[] d : due) {
            value(d[0] + "/" + d[1], d[2]);
        }
        value(BIG + "/1", MOST);
        value(BIG + "/-1", -MOST);
        value("-" + BIG + "/-1", MOST);
        value(BIG + "/3", 333333333333L);
        value(BIG + "/" + BIG, 1);
        value("(" + BIG + "-1)/" + BIG, 0);
    }

    private static void left() {
        D.part("% what is left then");
        int[][] due = {{7, 2, 1}, {-7, 2, -1}, {7, -2, 1}, {-7, -2, -1}, {6, 2, 0}, {-6, 2, 0}, {1, 2, 1}, {-1, 2, -1}, {0, 5, 0}, {5, 1, 0}, {5, -1, 0}, {5, 5, 0},
            {4, 5, 4}, {-4, 5, -4}, {-4, -5, -4}, {999999, 1000, 999}};
        for (int[] d : due) {
            value(d[0] + "%" + d[1], d[2]);
        }
        value(BIG + "%-1", 0);
        value("-" + BIG + "%3", -1);
        value(BIG + "%" + BIG, 0);
        value("(" + BIG + "-1)%" + BIG, MOST - 1);
    }

    private static void byZero() {
        D.part("ERROR: / or % by 0");
        for (String left : new String[] {"0", "1", "-1", BIG, "(2-2)"}) {
            for (String right : new String[] {"0", "-0", "(1-1)", "(0*7)", "(0 and 1)", "count(1)"}) {
                value(left + "/" + right, ERROR);
                value(left + "%" + right, ERROR);
            }
        }
        value("0/1", 0);
        value("0%1", 0);
        value("land+1/day", 1);
        value("day/land", ERROR);
    }

    private static void addedToTheMost() {
        D.part("ERROR: a value above 10 to the 12: of +, -");
        value(BIG, MOST);
        value(BIG + "+0", MOST);
        value(BIG + "-0", MOST);
        value(BIG + "-1", MOST - 1);
        value(BIG + "-1+1", MOST);
        value("1+(" + BIG + "-1)", MOST);
        value(BIG + "+1", ERROR);
        value("1+" + BIG, ERROR);
        value(BIG + "--1", ERROR);
        value(BIG + "-(0-1)", ERROR);
        value(BIG + "+" + BIG, ERROR);
        value("999999*999999+999999+999999", MOST - 1);
        value("999999*999999+999999+999999+1", MOST);
        value("999999*999999+999999+999999+2", ERROR);
    }

    private static void takenToTheLeast() {
        D.part("ERROR: or below 0 by more than that");
        value("-" + BIG, -MOST);
        value("-" + BIG + "-0", -MOST);
        value("-" + BIG + "+1", 1 - MOST);
        value("-" + BIG + "+1-1", -MOST);
        value("0-" + BIG, -MOST);
        value("-" + BIG + "-1", ERROR);
        value("-1-" + BIG, ERROR);
        value("-" + BIG + "+-1", ERROR);
        value("-" + BIG + "-" + BIG, ERROR);
        value("-" + BIG + "+" + BIG, 0);
    }

    private static void multiplied() {
        D.part("ERROR: of *");
        value("100000*10000*1000", MOST);
        value("-100000*10000*1000", -MOST);
        value("100000*10000*-1000", -MOST);
        value("-100000*10000*-1000", MOST);
        value("100000*10000*1001", ERROR);
        value("-100000*10000*1001", ERROR);
        value("100000*10000*-1001", ERROR);
        value("999999*999999", 999998000001L);
        value("999999*999999*2", ERROR);
        value("999999*-999999", -999998000001L);
        value(BIG + "*1", MOST);
        value("1*" + BIG, MOST);
        value(BIG + "*-1", -MOST);
        value("-1*" + BIG, -MOST);
        value(BIG + "*2", ERROR);
        value("2*" + BIG, ERROR);
        value(BIG + "*-2", ERROR);
        value(BIG + "*0", 0);
        value("0*" + BIG, 0);
        value("0*-" + BIG, 0);
        value("0*0", 0);
        // 13 times 76923076923 is 999999999999; 76923076924 times 13 is above
        value("(" + BIG + "/13)*13", MOST - 1);
        value("(" + BIG + "/13+1)*13", ERROR);
        value("13*(" + BIG + "/13+1)", ERROR);
        value("-13*(" + BIG + "/13+1)", ERROR);
        value("(" + BIG + "/2)*2", MOST);
        value("(" + BIG + "/2+1)*2", ERROR);
    }

    private static void productsTooLongForALong() {
        D.part("ERROR: of *, where a long would be too short");
        value(BIG + "*" + BIG, ERROR);
        value("-" + BIG + "*" + BIG, ERROR);
        value(BIG + "*-" + BIG, ERROR);
        value("-" + BIG + "*-" + BIG, ERROR);
        // 2 to the 64, which would be 0; 2 to the 63, which would be the least
        value("65536*65536*128*(65536*65536/128)", ERROR);
        value("65536*65536*(65536*65536)", ERROR);
        value("65536*65536*(65536*32768)", ERROR);
        // 2 to the 64 less 1, which would be -1; and one above it by 2
        value("(65536*65536+1)*(65536*65536-1)", ERROR);
        value("(65536*65536+1)*-(65536*65536-1)", ERROR);
        value("999999*999999*(999999*999999)", ERROR);
    }

    private static void signAheadOfTheMost() {
        D.part("a sign ahead brings no ERROR");
        value("-" + BIG, -MOST);
        value("--" + BIG, MOST);
        value("-(0-" + BIG + ")", MOST);
        value("-0", 0);
        value("---5", -5);
    }

    private static void errorOnTheWay() {
        D.part("ERROR: of a sign, on the way too");
        value(BIG + "+1-1", ERROR);
        value("(" + BIG + "+1)*0", ERROR);
        value("0*(1/0)", ERROR);
        value("-" + BIG + "-1+1", ERROR);
        value(BIG + "*2/2", ERROR);
        value(BIG + "/2*2", MOST);
        value("2*" + BIG + "/2", ERROR);
        value(BIG + "+1>0", ERROR);
        value("1/0=1/0", ERROR);
        value("1/0<>0", ERROR);
    }

    private static void errorOfAPart() {
        D.part("ERROR: of a part is one of the whole");
        value("1+1/0", ERROR);
        value("1/0+1", ERROR);
        value("not 1/0", ERROR);
        value("-(1/0)", ERROR);
        value("1%(1/0)", ERROR);
        value("(1/0)", ERROR);
        value("1<1/0", ERROR);
    }

    private static void heapsOfNone() {
        D.part("HEAPS: 0 of none");
        for (String heap : new String[] {"sum", "max", "min", "count"}) {
            value(heap + "(1)", 0);
            value(heap + "(-1)", 0);
            value(heap + "(1/0)", 0);
            value(withMeans(1, 2), heap.equals("count") ? "count(0)" : heap + "(5 if 0)", 0);
            value(withMeans(1, 2), heap.equals("count") ? "count(means>2)" : heap + "(-5 if means>2)", 0);
        }
        // there are two, but neither is alive
        KinMeet x = withMeans(1, 2);
        x.note(4, 0, 0, 0);
        x.note(3, 1, 0, 1);
        for (String heap : new String[] {"sum", "max", "min", "count"}) {
            value(x, heap + "(means+5)", 0);
            value(x, heap + "(-9-means)", 0);
        }
    }

    private static void heapsOfOne() {
        D.part("HEAPS: of one; the greatest below 0, the least above 0");
        for (int m : new int[] {0, 1, 99}) {
            KinMeet x = withMeans(m);
            value(x, "sum(means)", m);
            value(x, "max(means)", m);
            value(x, "min(means)", m);
            value(x, "count(means)", m == 0 ? 0 : 1);
            value(x, "max(-means)", -m);
            value(x, "min(-means)", -m);
            value(x, "sum(-means)", -m);
            value(x, "count(-means)", m == 0 ? 0 : 1);
        }
        KinMeet y = withMeans(3, 9, 5);
        value(y, "max(means)", 9);
        value(y, "min(means)", 3);
        value(y, "max(-means)", -3);
        value(y, "min(-means)", -9);
        value(y, "max(means-9)", 0);
        value(y, "min(means-3)", 0);
        KinMeet ten = withMeans(1, 2, 3, 4, 5, 6, 7, 8, 9, 10);
        value(ten, "sum(means)", 55);
        value(ten, "max(means)", 10);
        value(ten, "max(-means)", -1);
        value(ten, "count(1)", 10);
        value(ten, "count(means<10)", 9);
    }

    private static void heapsWithIf() {
        D.part("HEAPS: those for whom the E behind if isn't 0 (all without)");
        KinMeet x = withMeans(3, 9, 5);
        value(x, "sum(means if means-9)", 8);
        value(x, "sum(means if 9-means)", 8);
        value(x, "max(means if means-9)", 5);
        value(x, "min(means if means-3)", 5);
        value(x, "min(means if -1)", 3);
        value(x, "sum(means if 0)", 0);
        value(x, "sum(means if 7)", 17);
        value(x, "sum(means)", 17);
        value(x, "max(-means if means>3)", -5);
        value(x, "min(-means if means=3)", -3);
        // who is left out isn't looked at at all
        value(x, "sum(10/(means-9) if means<>9)", -1 - 2);
        value(x, "sum(1/0 if 0)", 0);
    }

    private static void heapsOfAliveOnes() {
        D.part("HEAPS go over KIN: that are ALIVE alone");
        KinMeet x = withMeans(1, 2, 4, 8);
        x.note(4, 0, 0, 0);
        x.note(4, 3, 0, 0);
        value(x, "sum(means)", 6);
        value(x, "min(means)", 2);
        value(x, "max(means)", 4);
        value(x, "count(1)", 2);
        x.strike(0);
        value(x, "sum(means)", 7);
        x.strike(1);
        value(x, "sum(means)", 15);
        x.note(4, 1, 0, 0);
        x.note(4, 2, 0, 0);
        value(x, "sum(means)", 9);
    }

    private static void ageWithoutANote() {
        D.part("age: AGE in THE YEAR; -1 without a note");
        KinMeet x = withMeans(1, 2, 3);
        x.years(20);
        value(x, "sum(age)", -3);
        x.note(3, 0, 0, 20);
        value(x, "max(age)", 0);
        value(x, "sum(age)", -2);
        x.note(3, 1, 0, 0);
        value(x, "max(age)", 20);
        x.note(3, 2, 0, 21);
        value(x, "sum(age)", 20);
        value(x, "count(age<0)", 0);
        x.years(1);
        value(x, "sum(age)", 22);
        value(x, "sum(means if age=0)", 3);
        value(x, "sum(means if age=1)", 1);
        Due.rules(x, "host max(age)*10+min(age);");
        D.due("HOST", x.host(), 0);
        for (int k = 0; k < 3; k++) {
            x.regret(k, 0, 0);
        }
        x.meet(0);
        Due.rules(x, "pay age+1;");
        D.due("pay of 0", x.owes(0, 0), 2);
        D.due("pay of 1", x.owes(1, 0), 22);
        D.due("pay of 2", x.owes(2, 0), 1);
        x.note(3, 2, 0, 500);
        D.due("one who isn't born yet", x.owes(2, 0), 0);
    }

    private static void sumAsItGoes() {
        D.part("ERROR: of a sum as it goes");
        // in order: the most, then what the means tell
        value(withMeans(0), "sum(" + BIG + ")", MOST);
        value(withMeans(0), "sum(-" + BIG + ")", -MOST);
        value(withMeans(0, 1), "sum(" + BIG + "*(1-means))", MOST);
        value(withMeans(0, 1), "sum(" + BIG + "*(1-means)+means)", ERROR);
        value(withMeans(0, 1), "sum(-" + BIG + "*(1-means)-means)", ERROR);
        value(withMeans(1, 0), "sum(" + BIG + "*(1-means)+means)", ERROR);
        value(withMeans(0, 1), "sum(" + BIG + "*(1-means)-means)", MOST - 1);
        // one above on the way, though the last one would bring it back
        String e = "sum((" + BIG + "-1)*(means=0)+2*(means=1)-9*(means=2))";
        value(withMeans(0, 1, 2), e, ERROR);
        value(withMeans(0, 2, 1), e, MOST - 8);
        value(withMeans(2, 1, 0), e, MOST - 8);
        value(withMeans(0, 0), "sum(" + BIG + "/2)", MOST);
        value(withMeans(0, 0), "sum(" + BIG + "/2+1)", ERROR);
        value(withMeans(0, 0), "sum(-" + BIG + "/2)", -MOST);
        value(withMeans(0, 0), "sum(-" + BIG + "/2-1)", ERROR);
        value(withMeans(0, 1), "sum(" + BIG + "*2 if 0)", 0);
    }

    private static void heapsAtTheMost() {
        D.part("max, min, count of VALUES at the most");
        KinMeet x = withMeans(0, 1, 2);
        value(x, "max(" + BIG + ")", MOST);
        value(x, "min(" + BIG + ")", MOST);
        value(x, "max(-" + BIG + ")", -MOST);
        value(x, "min(-" + BIG + ")", -MOST);
        value(x, "count(" + BIG + ")", 3);
        value(x, "max(" + BIG + "*(means-1))", MOST);
        value(x, "min(" + BIG + "*(means-1))", -MOST);
        value(x, "max(" + BIG + "*means)", ERROR);
        value(x, "count(" + BIG + "*means)", ERROR);
    }

    private static void errorWithinAHeap() {
        D.part("An ERROR within is one of the whole");
        KinMeet x = withMeans(0, 1, 2);
        for (int m = 0; m < 3; m++) {
            String bad = "6/(means-" + m + ")";
            value(x, "sum(" + bad + ")", ERROR);
            value(x, "max(" + bad + ")", ERROR);
            value(x, "min(" + bad + ")", ERROR);
            value(x, "count(" + bad + ")", ERROR);
            value(x, "sum(1 if " + bad + ")", ERROR);
            value(x, "max(1 if " + bad + ")", ERROR);
            value(x, "min(1 if " + bad + ")", ERROR);
            value(x, "1+0*sum(" + bad + ")", ERROR);
            value(x, "0 and sum(" + bad + ")", 0);
        }
        value(x, "sum(1 or 6/(means-1))", 3);
        value(x, "sum(means=1 or 6/(means-1))", 3);
    }

    private static void heapsOneAfterAnother() {
        D.part("HEAPS one after another, each for itself");
        KinMeet x = withMeans(3, 9, 5);
        value(x, "max(means)*100+min(means)*10+count(means)", 933);
        value(x, "max(-means)-max(-means-1)", 1);
        value(x, "sum(means)-sum(means)", 0);
        value(x, "max(means if 0)+max(-means)", -3);
        value(x, "min(-means)+min(means if 0)", -9);
        value(x, "sum(means if means>3)*100+sum(means)", 1417);
        value(x, "sum(means)*100+sum(means if means>3)", 1714);
        value(x, "sum(means if means>4 and means<9)+1", 6);
    }

    private static void errorOfEachLine() {
        D.part("an ERROR of bar, score, pay, host");
        KinMeet x = withMeans(5, 0);
        x.regret(0, 0, 0);
        x.regret(1, 0, 0);
        Due.rules(x, "bar 1/0;score 1/0;pay 6/means;host 1/0;");
        D.due("a bar is out", x.judged(0, 0), 1);
        D.due("score", x.score(0), ERROR);
        D.due("no HOST", x.host(), -1);
        x.meet(0);
        D.due("pay", x.owes(0, 0), 1);
        D.due("an ERROR of pay is 0", x.owes(1, 0), 0);
        Due.rules(x, "bar 0;score 1/0;");
        D.due("score is out", x.judged(0, 0), 5);
        D.due("no CHOICE", x.choice(), -1);
    }

    private static void knotsAllWorkedOut() {
        D.part("120 KNOTS, worked out");
        KinMeet x = withMeans(1, 2, 3, 4, 5, 6, 7, 8, 9, 10);
        value(x, "-" + "1+".repeat(59) + "1", 58);
        value(x, "not ".repeat(119) + "1", 0);
        value(x, "-".repeat(119) + "1", -1);
        value(x, "-".repeat(118) + "1", 1);
        value(x, "sum(" + "means+".repeat(59) + "1)", 55 * 59 + 10);
        value(x, "1" + " and 1".repeat(59), 1);
        value(x, "0" + " or 0".repeat(58) + " or 3", 1);
        value(x, "1-(1-(1-(1-(1-(1-(1-(1-1)))))))", 1);
        value(x, "sum(1)+".repeat(38) + "sum(1)", 390);
        value(x, "max(" + "-".repeat(100) + "means if " + "not ".repeat(16) + "1)", 10);
        value(x, "1*".repeat(59) + "7", 7);
        value(x, "1<(1<(1<(1<(1<(1<(1<(1<1)))))))", 0);
    }
}
