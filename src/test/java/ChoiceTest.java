/** Promises 12 to 20: MILES, OPTIONS, REGRETS, FLIGHTS, and how OPTIONS are judged. */
public final class ChoiceTest {
    private static final Due D = new Due();

    public static void main(String[] args) {
        miles();
        option();
        regret();
        flight();
        travel();
        travelChangesItsWay();
        score();
        judged();
        choice();
        ring();
        D.end();
    }

    /** Kin with these homes, all in branch 0. */
    private static KinMeet at(int... homes) {
        KinMeet x = new KinMeet();
        for (int h : homes) {
            x.kin(h, 0, 0, 0, false);
        }
        return x;
    }

    /** An option with what each of kin regrets of it. */
    private static void option(KinMeet x, int land, int day, int... regrets) {
        int o = x.option(land, day);
        for (int k = 0; k < regrets.length; k++) {
            x.regret(k, o, regrets[k]);
        }
    }

    private static void miles() {
        D.part("promise 12");
        KinMeet x = at(0, 1);
        for (int[] w : new int[][] {{-1, 0, 1}, {6, 0, 1}, {0, -1, 1}, {0, 6, 1}, {3, 3, 1}, {0, 1, -1}, {0, 1, 10000}}) {
            D.due("no such", x.miles(w[0], w[1], w[2]), false);
        }
        option(x, 1, 1, 0, 0);
        Due.rules(x, "score max(miles);");
        D.due("0 at first", x.score(0), 0);
        D.due("miles", x.miles(0, 1, 9999), true);
        D.due("told", x.score(0), 9999);
        D.due("the other way", x.miles(1, 0, 5), true);
        D.due("the same", x.score(0), 5);
        D.due("0", x.miles(5, 4, 0), true);
        x.meet(0);
        D.due("in a MEETING too", x.miles(0, 1, 8), true);
        x.end();
        option(x, 1, 1, 0, 0);
        D.due("they stay", x.score(0), 8);
    }

    private static void option() {
        D.part("promise 13");
        KinMeet x = at(0);
        for (int[] w : new int[][] {{-1, 1}, {6, 1}, {0, 0}, {0, 31}, {0, -5}}) {
            D.due("no such", x.option(w[0], w[1]), -1);
        }
        for (int i = 0; i < 6; i++) {
            D.due("option " + i, x.option(5 - i, i == 0 ? 30 : i), i);
        }
        D.due("the seventh", x.option(0, 1), -1);
        D.due("count(3)", x.count(3), 6);
        x.meet(0);
        KinMeet y = at(0);
        y.option(0, 1);
        y.meet(0);
        D.due("in a MEETING", y.option(0, 1), -1);
        y.end();
        D.due("anew", y.option(0, 1), 0);
    }

    private static void regret() {
        D.part("promise 14");
        KinMeet x = at(0, 0);
        D.due("no option", x.regret(0, 0, 5), false);
        x.option(0, 1);
        for (int[] w : new int[][] {{-1, 0, 5}, {2, 0, 5}, {0, -1, 5}, {0, 1, 5}, {0, 0, -1}, {0, 0, 101}}) {
            D.due("no such", x.regret(w[0], w[1], w[2]), false);
        }
        D.due("CAN'T at first", x.score(0), 200);
        D.due("none can", x.travel(0, 2), 0);
        D.due("regret", x.regret(0, 0, 99), true);
        D.due("one can", x.travel(0, 2), 1);
        D.due("regret", x.regret(0, 0, 100), true);
        D.due("none can", x.travel(0, 2), 0);
        x.regret(0, 0, 0);
        D.due("told anew", x.score(0), 100);
        x.kin(0, 0, 0, 0, false);
        D.due("a new one CAN'T", x.score(0), 200);
        x.note(4, 1, 0, 0);
        D.due("of one who isn't alive", x.regret(1, 0, 7), true);
        D.due("isn't asked", x.score(0), 100);
        x.strike(0);
        D.due("till it is", x.score(0), 107);
        x.meet(0);
        D.due("in a MEETING", x.regret(0, 0, 5), false);
        x.end();
        x.option(0, 1);
        D.due("CAN'T at first again", x.score(0), 300);
    }

    private static void flight() {
        D.part("promise 15");
        KinMeet x = at(0);
        for (int[] w : new int[][] {{-1, 1, 1, 1, 1}, {6, 1, 1, 1, 1}, {1, -1, 1, 1, 1}, {1, 6, 1, 1, 1}, {2, 2, 1, 1, 1}, {0, 1, 0, 1, 1},
            {0, 1, 31, 1, 1}, {0, 1, 1, 0, 1}, {0, 1, 1, 10, 1}, {0, 1, 1, 1, -1}, {0, 1, 1, 1, 1000}}) {
            D.due("no such", x.flight(w[0], w[1], w[2], w[3], w[4]), -1);
        }
        D.due("count(4)", x.count(4), 0);
        D.due("flight", x.flight(0, 5, 30, 9, 999), 0);
        D.due("the same once more", x.flight(0, 5, 30, 9, 999), 1);
        for (int i = 2; i < 14; i++) {
            D.due("flight " + i, x.flight(5, 0, 1, 1, 0), i);
        }
        D.due("the 15th", x.flight(5, 0, 1, 1, 0), -1);
        D.due("count(4)", x.count(4), 14);
    }

    private static void travel() {
        D.part("promise 16");
        KinMeet x = at(0, 0, 1, 2, 5);
        D.due("no option", x.travel(0, 0), -1);
        option(x, 2, 10, 1, 1, 1, 1, 100);
        D.due("no option", x.travel(1, 0), -1);
        D.due("no what", x.travel(0, 3), -1);
        D.due("no what", x.travel(0, -1), -1);
        D.due("one is there", x.travel(0, 0), 1);
        D.due("for nothing", x.travel(0, 1), 0);
        D.due("four can", x.travel(0, 2), 4);
        x.flight(0, 2, 11, 9, 1);
        D.due("too late", x.travel(0, 0), 1);
        x.flight(0, 2, 10, 1, 100);
        D.due("on the day", x.travel(0, 0), 2);
        D.due("its price", x.travel(0, 1), 100);
        x.flight(0, 1, 9, 1, 5);
        D.due("half a way is none", x.travel(0, 0), 2);
        D.due("and costs nothing", x.travel(0, 1), 100);
        // the second leg is on an earlier day: in whatever order they are taken
        x.flight(1, 2, 3, 1, 20);
        D.due("one more", x.travel(0, 0), 3);
        D.due("the one who pays for one leg", x.travel(0, 1), 120);
        x.flight(1, 2, 3, 1, 30);
        D.due("all", x.travel(0, 0), 4);
        D.due("prices", x.travel(0, 1), 155);
        x.flight(5, 2, 1, 9, 1);
        D.due("who CAN'T stays", x.travel(0, 0), 4);
        x.note(4, 3, 0, 0);
        D.due("the one who was there isn't alive", x.travel(0, 0), 3);
        D.due("three can", x.travel(0, 2), 3);
        x.change(0, 0, 2);
        D.due("moved there", x.travel(0, 1), 55);
    }

    /** The first way found has to be given back in part for the second one to come. */
    private static void travelChangesItsWay() {
        D.part("promise 16, ways");
        KinMeet x = at(0, 1);
        option(x, 3, 30, 0, 0);
        x.flight(0, 2, 1, 1, 1);
        x.flight(2, 3, 1, 1, 1);
        x.flight(0, 3, 1, 1, 50);
        x.flight(1, 2, 1, 1, 3);
        D.due("both", x.travel(0, 0), 2);
        D.due("the dear one for 0", x.travel(0, 1), 54);
        KinMeet y = at(0, 1, 2);
        option(y, 5, 30, 0, 0, 0);
        y.flight(0, 1, 1, 9, 0);
        y.flight(1, 2, 1, 9, 0);
        y.flight(2, 0, 1, 9, 0);
        D.due("round and round", y.travel(0, 0), 0);
        D.due("for nothing", y.travel(0, 1), 0);
        y.flight(1, 5, 1, 2, 7);
        y.flight(1, 5, 1, 1, 999);
        D.due("all", y.travel(0, 0), 3);
        D.due("prices", y.travel(0, 1), 1013);
        // at the same number of people the least sum, though it is longer by legs
        y.flight(2, 4, 1, 9, 1);
        y.flight(4, 3, 1, 9, 1);
        y.flight(3, 5, 1, 9, 1);
        D.due("prices", y.travel(0, 1), 9);
        seatsGivenBack();
        KinMeet z = at(0, 0, 0, 0, 0, 0, 0, 0, 0, 0);
        option(z, 1, 30, 0, 0, 0, 0, 0, 0, 0, 0, 0, 0);
        z.flight(0, 1, 1, 9, 1);
        z.flight(0, 1, 1, 9, 2);
        D.due("ten go", z.travel(0, 0), 10);
        D.due("nine for 1, one for 2", z.travel(0, 1), 11);
    }

    private static void flights(KinMeet x, int[]... flights) {
        for (int[] f : flights) {
            x.flight(f[0], f[1], 1, f[2], f[3]);
        }
    }

    private static void seatsGivenBack() {
        KinMeet x = at(3, 0, 2);
        option(x, 5, 30, 0, 0, 0);
        flights(x, new int[] {0, 1, 2, 4}, new int[] {0, 5, 2, 8}, new int[] {2, 1, 2, 5}, new int[] {0, 2, 1, 0}, new int[] {1, 5, 1, 3},
                new int[] {1, 0, 1, 1});
        D.due("3 stays", x.travel(0, 0), 2);
        D.due("0 at once, 2 by 1", x.travel(0, 1), 16);
        KinMeet y = at(2, 3, 1);
        option(y, 5, 30, 0, 0, 0);
        flights(y, new int[] {2, 5, 2, 9}, new int[] {1, 3, 2, 1}, new int[] {2, 3, 1, 0}, new int[] {3, 5, 2, 4});
        D.due("all", y.travel(0, 0), 3);
        D.due("2 at once, the others by 3", y.travel(0, 1), 18);
        KinMeet z = at(4, 3);
        option(z, 5, 30, 0, 0);
        flights(z, new int[] {3, 0, 1, 5}, new int[] {0, 5, 1, 7}, new int[] {4, 2, 1, 2}, new int[] {1, 0, 2, 0}, new int[] {3, 5, 2, 8},
                new int[] {3, 1, 1, 0}, new int[] {4, 0, 1, 1});
        D.due("both", z.travel(0, 0), 2);
        D.due("4 by 0, 3 at once", z.travel(0, 1), 16);
    }

    private static void score() {
        D.part("promise 17");
        KinMeet x = at(0, 1, 1);
        D.due("no option", x.score(0), Long.MIN_VALUE);
        option(x, 1, 4, 7, 100, 0);
        D.due("no option", x.score(-1), Long.MIN_VALUE);
        D.due("all REGRET", x.score(0), 107);
        x.note(4, 1, 0, 0);
        D.due("of those alive", x.score(0), 7);
        Due.rules(x, "bar 1;");
        D.due("whether out or not", x.score(0), 7);
        Due.rules(x, "bar 1;score fare*100+come*10+land;");
        D.due("not all can come", x.score(0), -100 + 20 + 1);
        x.flight(0, 1, 4, 1, 6);
        D.due("all can", x.score(0), 600 + 20 + 1);
        Due.rules(x, "score 1/0;");
        D.due("an ERROR", x.score(0), Long.MIN_VALUE);
    }

    private static void judged() {
        D.part("promise 18");
        KinMeet x = at(0, 0, 0);
        D.due("no option", x.judged(0, 0), -1);
        option(x, 0, 1, 1, 2, 3);
        option(x, 0, 2, 2, 3, 1);
        option(x, 0, 3, 2, 3, 1);
        option(x, 0, 4, 100, 100, 0);
        D.due("no option", x.judged(4, 1), -1);
        D.due("no what", x.judged(0, 2), -1);
        D.due("no what", x.judged(0, -1), -1);
        Due.rules(x, "bar day=1;bar day/2=1;bar 1/(day-4);score 1/(day-5);");
        D.due("by the first", x.judged(0, 0), 1);
        D.due("by the second", x.judged(1, 0), 2);
        D.due("an ERROR is one", x.judged(3, 0), 3);
        Due.rules(x, "bar day-1;bar 7;score 1;");
        D.due("isn't 0: below it", x.judged(1, 0), 1);
        D.due("by the second", x.judged(0, 0), 2);
        Due.rules(x, "bar day>9;bar 0;bar 0;bar day=2;score 1/(day-1);");
        D.due("by score", x.judged(0, 0), 5);
        D.due("by the fourth", x.judged(1, 0), 4);
        D.due("by none", x.judged(2, 0), 0);
        D.due("a bar goes ahead of score", x.judged(1, 0), 4);
        D.due("0 beats 1, 2 (by two to one) and 3", x.judged(0, 1), 3);
        D.due("1 beats 3 alone", x.judged(1, 1), 1);
        D.due("3 beats none", x.judged(3, 1), 0);
        x.note(4, 0, 0, 0);
        D.due("those alive alone", x.judged(0, 1), 0);
    }

    private static void choice() {
        D.part("promise 19");
        KinMeet x = at(0, 0);
        D.due("no options", x.choice(), -1);
        option(x, 0, 1, 5, 5);
        option(x, 0, 2, 4, 4);
        option(x, 0, 3, 8, 0);
        D.due("the least, of several the first", x.choice(), 1);
        Due.rules(x, "score day/3;");
        D.due("0 and 1 are like", x.choice(), 0);
        x.rules(0);
        Due.rules(x, "bar day=2;");
        D.due("1 is out", x.choice(), 2);
        Due.rules(x, "score -day;");
        D.due("below 0", x.choice(), 2);
        Due.rules(x, "score 1/(day-3)*9;");
        D.due("an ERROR is out", x.choice(), 1);
        Due.rules(x, "bar 1;");
        D.due("all are out", x.choice(), -1);
        Due.rules(x, "score 1/0;");
        D.due("all are out", x.choice(), -1);
    }

    private static void ring() {
        D.part("promise 20");
        KinMeet x = at(0, 0, 0);
        D.due("no options", x.ring(), 0);
        option(x, 0, 1, 9, 9, 9);
        D.due("one", x.ring(), 1);
        option(x, 0, 2, 1, 2, 3);
        D.due("the better one", x.ring(), 2);
        option(x, 0, 3, 2, 3, 1);
        D.due("1 beats 2", x.ring(), 2);
        option(x, 0, 4, 3, 1, 2);
        D.due("a ring of three", x.ring(), 14);
        option(x, 0, 5, 0, 0, 0);
        D.due("one that beats all", x.ring(), 16);
        option(x, 0, 6, 0, 0, 0);
        D.due("like ones are both in", x.ring(), 48);
        Due.rules(x, "bar day=5;");
        D.due("bars aren't asked", x.ring(), 48);
        KinMeet y = at(0);
        option(y, 0, 1, 5);
        option(y, 0, 2, 5);
        y.note(4, 0, 0, 0);
        D.due("none alive: all are like", y.ring(), 3);
    }
}
