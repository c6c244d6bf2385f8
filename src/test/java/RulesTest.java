/** Promises 2 to 4 and what RULES mean: the tape, the text's FAULTS, the VALUES. */
public final class RulesTest {
    private static final Due D = new Due();

    public static void main(String[] args) {
        feed();
        rules();
        tokens();
        grammar();
        tooMuch();
        toldAlready();
        names();
        values();
        errors();
        heaps();
        namesOfKin();
        D.end();
    }

    private static void feed() {
        D.part("promise 2");
        KinMeet x = new KinMeet();
        for (int i = 1; i <= 30; i++) {
            D.due("feed " + i, x.feed(0, 0, 0, 0, 0), 20 * i);
        }
        D.due("beyond 600", x.feed(0, 0, 0, 0, 0), -1);
        D.due("beyond 600", x.feed(0, 0, 0, 0, 0), -1);
        D.due("601 aren't there", x.rules(601), -2);
        D.due("600 are", x.rules(600), -1);
        D.due("empty then", x.feed(0, 0, 0, 0, 0), 20);
        // bytes from 128 on are no blanks and no tokens; the highest byte comes first
        KinMeet y = new KinMeet();
        y.feed(0x20200a0a, 0x20202080, 0, 0, -1);
        D.due("rules(7)", y.rules(7), 0);
        y.feed(0x20200a0a, 0x20202080, 0, 0, -1);
        D.due("rules(8)", y.rules(8), -1);
        D.due("place", y.fault(1), 7);
        y.feed(-1, 0, 0, 0, 0);
        D.due("rules(1)", y.rules(1), -1);
        D.due("place", y.fault(1), 0);
    }

    private static void rules() {
        D.part("promise 3");
        KinMeet x = new KinMeet();
        Due.put(x, "score 1;bar 2;");
        D.due("below 0", x.rules(-1), -2);
        D.due("too many", x.rules(21), -2);
        D.due("the tape stays", x.rules(14), 2);
        D.due("knots", x.count(9), 2);
        D.due("the tape is empty", x.rules(1), -2);
        D.due("all lines", Due.rules(x, "host 1;bar 1;bar 1;pay 1;bar 1;bar 1;score 1;"), 7);
        D.due("with a FAULT", Due.rules(x, "score 1+2;bar"), -1);
        D.due("the old ones stay", x.count(9), 7);
        D.due("the tape is empty", x.feed(0, 0, 0, 0, 0), 20);
        D.due("none", x.rules(0), 0);
        D.due("no knots", x.count(9), 0);
        D.due("blanks alone", Due.rules(x, " \n "), 0);
        Due.put(x, "score 1;junk");
        D.due("a part of the tape", x.rules(8), 1);
        D.due("no FAULT", x.fault(0), 0);
        cutTexts();
        afterFaults();
    }

    /** What stands behind the text on the tape isn't looked at. */
    private static void cutTexts() {
        int[][] due = {{8, 1, 8}, {10, 1, 10}, {12, 1, 12}};
        for (int[] d : due) {
            KinMeet x = new KinMeet();
            Due.put(x, "score 1<=222+land;");
            D.due("rules(" + d[0] + ")", x.rules(d[0]), -1);
            D.due("fault", x.fault(0), d[1]);
            D.due("place", x.fault(1), d[2]);
        }
        KinMeet x = new KinMeet();
        Due.put(x, "score land;");
        D.due("a cut word", x.rules(9), -1);
        D.due("its place", x.fault(1), 6);
    }

    /** A text that breaks off leaves nothing behind for the next one. */
    private static void afterFaults() {
        KinMeet x = new KinMeet();
        x.option(0, 1);
        for (String broken : new String[] {"score 1+(2*sum(3", "score ((((((((", "score sum(1 if not", "bar 1;bar 2;bar 3;bar 4;score", "score 1+-", "pay 1;host 2;score 3;x"}) {
            D.due(broken, Due.rules(x, broken), -1);
            D.due("the next one", Due.rules(x, "bar 0;score ((((((((7))))))));"), 2);
            D.due("its value", x.score(0), 7);
            D.due("its knots", x.count(9), 2);
            D.due("a name", Due.rules(x, "score regret;"), -1);
            D.due("fault", x.fault(0), 4);
        }
    }

    private static void fault(String text, int fault, int place) {
        KinMeet x = new KinMeet();
        D.due(text, Due.rules(x, text), fault == 0 ? text.chars().filter(c -> c == ';').count() : -1);
        D.due("fault of " + text, x.fault(0), fault);
        D.due("place of " + text, x.fault(1), place);
    }

    private static void good(String text) {
        fault(text, 0, -1);
    }

    private static void tokens() {
        D.part("promise 4, tokens");
        good("score 1 ;\nbar\n2;");
        good("score(1);bar(2)<>3;");
        good("score 1and 2or 3;");
        good("score 1>=2;bar 1<=2;bar 1<>2;bar 1=2;");
        good("score 00000000000000000000999999;");
        fault("score\t1;", 1, 5);
        fault("score 1 ! ;", 1, 8);
        fault("score 1 <> = 2;", 1, 11);
        fault("score 1<=>2;", 1, 9);
        fault("score 1=<2;", 1, 8);
        fault("score 1=>2;", 1, 8);
        fault("score 1><2;", 1, 8);
        fault("score 1 > = 2;", 1, 10);
        fault("score 1 < > 2;", 1, 10);
        fault("Score 1;", 1, 0);
        fault("score lan;", 1, 6);
        fault("score lands;", 1, 6);
        fault("score land1;", 1, 10);
        fault("score landday;", 1, 6);
        fault("score landz;", 1, 6);
        fault("score zland;", 1, 6);
        fault("score aland;", 1, 6);
        fault("scored 1;", 1, 0);
        fault("score notday;", 1, 6);
        fault("score 1 2;", 1, 8);
        fault("score 1" + (char) 233 + ";", 1, 7);
        fault("score 1" + (char) 255 + ";", 1, 7);
        fault("score 1" + (char) 0 + ";", 1, 7);
        KinMeet x = new KinMeet();
        D.due("fault(2)", x.fault(2), -1);
        D.due("fault(-1)", x.fault(-1), -1);
        Due.rules(x, "bad");
        D.due("fault(0)", x.fault(0), 1);
        x.rules(100);
        D.due("-2 leaves it", x.fault(0), 1);
        D.due("-2 leaves it", x.fault(1), 0);
        x.rules(0);
        D.due("none any more", x.fault(0), 0);
        D.due("none any more", x.fault(1), -1);
    }

    private static void grammar() {
        D.part("promise 4, grammar");
        good("score not not 1;bar not 1 < 2;bar (not 1);bar - - 1;");
        good("score 1 < 2 and 3 < 4 or not 5 = 6;");
        good("score (1 < 2) < 3;");
        good("score sum(1 if 2)+max(3)*min(4 if not 5)-count(not can);");
        good("score sum((1) if (2) < 3);");
        fault(";", 1, 0);
        fault("score 1;;", 1, 8);
        fault("score;", 1, 5);
        fault("score", 1, 5);
        fault("score   ", 1, 8);
        fault("score 1", 1, 7);
        fault("score 1  ", 1, 9);
        fault("score 1+", 1, 8);
        fault("score (1", 1, 8);
        fault("score sum", 1, 9);
        fault("score sum(", 1, 10);
        fault("score (1;", 1, 8);
        fault("score 1);", 1, 7);
        fault("score ();", 1, 7);
        fault("score + 1;", 1, 6);
        fault("score 1 + not 2;", 1, 10);
        fault("score - not 2;", 1, 8);
        fault("score 1 < not 2;", 1, 10);
        fault("score 1 * not 2;", 1, 10);
        fault("score 1 not 2;", 1, 8);
        fault("score 1 < 2 < 3;", 1, 12);
        fault("score 1 < 2 + 3 = 4;", 1, 16);
        fault("score not 1 = 2 > 3;", 1, 16);
        fault("score 1 if 2;", 1, 8);
        fault("score (1 if 2);", 1, 9);
        fault("score sum((1 if 2));", 1, 13);
        fault("score sum(1 if 2 if 3);", 1, 17);
        fault("score count(1 if 2);", 1, 14);
        fault("score sum 1;", 1, 10);
        fault("score sum(1;", 1, 11);
        fault("score sum();", 1, 10);
        fault("score sum(1 if);", 1, 14);
        fault("score land day;", 1, 11);
        fault("score score;", 1, 6);
        fault("score or;", 1, 6);
        fault("score 1 and or 2;", 1, 12);
        fault("land;", 1, 0);
        fault("sum(1);", 1, 0);
        fault("score 1 bar 2;", 1, 8);
        fault("score 1,2;", 1, 7);
    }

    private static void tooMuch() {
        D.part("promise 4, too much");
        good("score 999999;");
        fault("score 1000000;", 2, 6);
        fault("score 99999999999999999999;", 2, 6);
        fault("score 1 4294967296;", 1, 8);
        good("score ((((((((1))))))));");
        fault("score (((((((((1)))))))));", 2, 14);
        good("score (((((((sum(1))))))));");
        fault("score ((((((((sum(1)))))))));", 2, 17);
        good("score ((((((((1))))))))+((((((((1))))))));");
        fault("score 1((((((((((", 1, 7);
        good("bar 1;bar 2;bar 3;bar 4;");
        fault("bar 1;bar 2;bar 3;bar 4;score 1;bar 5;", 2, 32);
        // 60 numbers and 59 signs are 119 KNOTS; then one more fits, and one doesn't
        String many = "1+".repeat(59) + "1";
        good("score -" + many + ";");
        fault("score -" + many + ";pay 1;", 2, 6 + 1 + many.length() + 1 + 4);
        fault("score -" + many + ";pay regret;", 2, 6 + 1 + many.length() + 1 + 4);
        fault("score -" + many + ";pay mine;", 2, 6 + 1 + many.length() + 1 + 4);
        fault("score -" + many + ";pay foo;", 1, 6 + 1 + many.length() + 1 + 4);
        fault("score -" + many + ";pay sum(1);", 2, 6 + 1 + many.length() + 1 + 4);
        fault("score -" + many + "+1;", 2, 6 + 1 + many.length());
        fault("score -" + many + " and 1;", 2, 6 + 1 + many.length() + 1);
        fault("score -" + many + "<1;", 2, 6 + 1 + many.length());
        fault("score --" + many + ";", 2, 6 + 2 + many.length() - 1);
        good("bar " + "not ".repeat(119) + "1;");
        fault("bar " + "not ".repeat(120) + "1;", 2, 4 + 480);
        good("bar " + "-".repeat(119) + "1;");
        KinMeet x = new KinMeet();
        Due.rules(x, "score -" + many + ";");
        D.due("count(9)", x.count(9), 120);
        Due.rules(x, "score not(1<2)and sum(can if regret)or -land;pay 3;");
        D.due("count(9)", x.count(9), 12);
    }

    private static void toldAlready() {
        D.part("promise 4, told already");
        fault("score 1;score 2;", 3, 8);
        fault("pay 1;bar 1;pay 2;", 3, 12);
        fault("host 1;host;", 3, 7);
        fault("score 1;pay 1;host 1;score", 3, 21);
    }

    private static void names() {
        D.part("promise 4, names");
        String[] option = {"land", "day", "fare", "come"};
        String[] kin = {"home", "branch", "age", "means", "can", "regret", "miles"};
        String[] branch = {"times", "last", "people"};
        for (String n : option) {
            nameFits(n, "score bar pay", "score bar pay");
        }
        for (String n : kin) {
            boolean host = "home branch age means".contains(n);
            nameFits(n, "pay", host ? "score bar pay host" : "score bar pay");
        }
        for (String n : branch) {
            nameFits(n, "host", "host");
        }
        nameFits("mine", "", "host");
        for (String heap : new String[] {"sum", "max", "min", "count"}) {
            fault("pay sum(1+" + heap + "(1));", 4, 10);
            fault("host max(" + heap, 4, 9);
            fault("host max(1 if (" + heap + "(1)));", 4, 15);
            good("host " + heap + "(1)+" + heap + "(2);");
        }
        fault("score regret", 4, 6);
        fault("score regret!", 4, 6);
        fault("score 1 regret;", 1, 8);
        good("score sum(regret)+land;");
        fault("score sum(regret)+regret;", 4, 18);
        good("host sum(mine if (home));");
        fault("host sum(mine if (home))+mine;", 4, 25);
    }

    /** Where a name may stand outside heaps, and within them. */
    private static void nameFits(String name, String outside, String inside) {
        for (String line : new String[] {"score", "bar", "pay", "host"}) {
            String text = line + " " + name + ";";
            fault(text, outside.contains(line) ? 0 : 4, outside.contains(line) ? -1 : line.length() + 1);
            text = line + " sum(" + name + ");";
            fault(text, inside.contains(line) ? 0 : 4, inside.contains(line) ? -1 : line.length() + 5);
            text = line + " max(1 if (" + name + "));";
            fault(text, inside.contains(line) ? 0 : 4, inside.contains(line) ? -1 : line.length() + 11);
        }
    }

    /** Three of kin, the last one dead; one option. */
    private static KinMeet meeting() {
        KinMeet x = new KinMeet();
        x.kin(1, 0, 10, 0, false);
        x.kin(2, 1, 20, 0, false);
        x.kin(3, 2, 30, 0, false);
        x.note(4, 2, 0, 0);
        x.note(3, 0, 0, 0);
        x.option(2, 7);
        x.regret(0, 0, 5);
        x.regret(2, 0, 9);
        x.miles(1, 2, 50);
        return x;
    }

    private static void value(String e, long due) {
        KinMeet x = meeting();
        D.due("rules " + e, Due.rules(x, "score " + e + ";"), 1);
        D.due("value of " + e, x.score(0), due);
    }

    private static void error(String e) {
        value(e, Long.MIN_VALUE);
    }

    private static void values() {
        D.part("values");
        value("1+2*3", 7);
        value("(1+2)*3", 9);
        value("10-3-2", 5);
        value("100/7/2", 7);
        value("100/7*7", 98);
        value("17%5*2", 4);
        value("-7/2", -3);
        value("7/-2", -3);
        value("-7%3", -1);
        value("7%-3", 1);
        value("--5", 5);
        value("-5*-6", 30);
        value("2--3", 5);
        value("1<2", 1);
        value("2<2", 0);
        value("2<=2", 1);
        value("3<=2", 0);
        value("2=2", 1);
        value("2=3", 0);
        value("2<>3", 1);
        value("2<>2", 0);
        value("3>2", 1);
        value("2>2", 0);
        value("2>=2", 1);
        value("1>=2", 0);
        value("1+1<3", 1);
        value("3-1<2-1", 0);
        value("not 0", 1);
        value("not 7", 0);
        value("not not 7", 1);
        value("not 1=2", 1);
        value("not 0+1", 0);
        value("5 and 7", 1);
        value("5 and 0", 0);
        value("0 and 5", 0);
        value("0 or 7", 1);
        value("7 or 0", 1);
        value("0 or 0", 0);
        value("1 or 0 and 0", 1);
        value("(1 or 0) and 0", 0);
        value("0 and 0 or 1", 1);
        value("not 0 and 0", 0);
        value("2 and 3 and 4", 1);
        value("0 or 0 or -9", 1);
        value("land", 2);
        value("day*come", 7);
    }

    private static void errors() {
        D.part("errors");
        error("1/0");
        error("1%0");
        error("0/0");
        error("1/(2-2)");
        value("0 and 1/0", 0);
        value("1 or 1/0", 1);
        error("1 and 1/0");
        error("0 or 1/0");
        error("1/0 and 0");
        value("0 and 1/0 or 2", 1);
        value("1 or 1/0 and 0", 1);
        error("not 1/0");
        error("1/0=1/0");
        value("999999*999999", 999998000001L);
        value("100000*10000*1000", 1000000000000L);
        error("100000*10000*1000+1");
        value("-100000*10000*1000", -1000000000000L);
        error("-100000*10000*1000-1");
        error("100000*10000*1001");
        error("-100000*10000*1001");
        error("(100000*10000*1000)*(100000*10000*1000)");
        error("(100000*10000*1000)*-(100000*10000*1000)");
        // 2 to the 64 would be 0 in a long
        error("65536*65536*16*(65536*65536)");
        error("100000*10000*1000+1-1");
        value("(100000*10000*1000)*0", 0);
        value("0*(100000*10000*1000)", 0);
        value("-(100000*10000*1000)/-1", 1000000000000L);
        error("sum(100000*10000*1000)");
        error("sum(0-100000*10000*1000)");
        value("max(100000*10000*1000)", 1000000000000L);
        // as it goes: the second one of kin is above the bound, though a third could bring it back
        KinMeet x = new KinMeet();
        x.kin(0, 0, 1, 0, false);
        x.kin(0, 0, 1, 0, false);
        x.kin(0, 0, 0, 0, false);
        x.option(0, 1);
        Due.rules(x, "score sum(means*100000*10000*1000-(1-means)*10000*10000*10000);");
        D.due("as it goes", x.score(0), Long.MIN_VALUE);
        x.change(1, 2, 0);
        D.due("and back", x.score(0), -1000000000000L);
    }

    private static void heaps() {
        D.part("heaps");
        value("sum(means)", 30);
        value("sum(means if means>10)", 20);
        value("max(means)", 20);
        value("min(means)", 10);
        value("max(-means)", -10);
        value("min(-means)", -20);
        value("count(means)", 2);
        value("count(means>15)", 1);
        value("count(0)", 0);
        value("sum(1 if 0)", 0);
        value("max(-1 if 0)", 0);
        value("min(1 if 0)", 0);
        value("max(-5 if 1)", -5);
        value("10*sum(1)+sum(means if home=1)*2", 40);
        value("max(-means)+max(-means)*10+min(means)*100", 890);
        value("max(5)+sum(means or 1)+max(-3)", 4);
        value("sum(means if can or home=2)", 30);
        value("sum(means if can and home=2)", 0);
        value("sum(day*home)", 21);
        value("sum(100/(means-10) if means<>10)", 10);
        error("sum(100/(means-10))");
        error("sum(1 if 1/(means-10))");
        error("count(1/(means-20))");
        error("0*sum(1/0)");
        value("sum(1/0 if 0)", 0);
        value("0 and sum(1/0)", 0);
        KinMeet x = new KinMeet();
        x.option(0, 1);
        Due.rules(x, "score sum(1/0)+count(1)+max(3)+min(4);");
        D.due("heaps of none", x.score(0), 0);
    }

    private static void namesOfKin() {
        D.part("names of kin");
        value("sum(home)", 3);
        value("sum(branch)", 1);
        value("sum(age)", -1);
        value("sum(can)", 1);
        value("sum(regret)", 105);
        value("sum(miles)", 50);
        value("sum(miles if home=land)", 0);
        value("max(miles)", 50);
    }
}
