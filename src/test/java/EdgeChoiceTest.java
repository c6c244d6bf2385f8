/** Edges of ==== 3 and of promises 12 to 20: a test for each sentence that names one, under the sentence's own words. */
public final class EdgeChoiceTest {
    private static final Due D = new Due();
    private static final long ERROR = Long.MIN_VALUE;
    private static final int[] NO_LANDS = {-1, 6, 7, Integer.MIN_VALUE, Integer.MAX_VALUE};
    private static final int[] NO_DAYS = {-1, 0, 31, Integer.MIN_VALUE, Integer.MAX_VALUE};

    public static void main(String[] args) {
        milesBounds();
        milesBothTheSame();
        milesBothWays();
        milesAtFirst();
        optionsAtMostSix();
        optionBounds();
        optionInAMeeting();
        regretBounds();
        regretOfNoSuchOnes();
        regretInAMeeting();
        cannotAtFirst();
        canIfAliveAndNotCannot();
        flightsAtMostFourteen();
        flightBounds();
        flightToAnotherLand();
        refusedCallsChangeNothing();
        travelRefused();
        flightsNotBehindTheDay();
        flightsInWhateverOrder();
        whoIsThere();
        noMoreThanSeats();
        bringNobody();
        bringTheMost();
        pricesLeast();
        pricesOfNothing();
        pricesOfTheMost();
        seatsGivenBackAndTakenAnew();
        fareOfAll();
        comeAndWhatOneRegrets();
        milesOfOne();
        outByTheFirstBar();
        outByWhatIsNotZero();
        outByScore();
        judgedRefused();
        scoreWithoutALine();
        scoreRefused();
        choiceOfLikeOnes();
        choiceOfThoseNotOut();
        beatsByMore();
        beatsOfThoseAlive();
        beatsHowMany();
        ringOfNone();
        ringOfOne();
        ringOfLikeOnes();
        ringOfThoseThatBeatOneAnother();
        ringOfSix();
        D.end();
    }

    private static KinMeet at(int... homes) {
        KinMeet x = new KinMeet();
        for (int h : homes) {
            x.kin(h, 0, 0, 0, false);
        }
        return x;
    }

    /** An option with what each of kin regrets of it. */
    private static int option(KinMeet x, int land, int day, int... regrets) {
        int o = x.option(land, day);
        for (int k = 0; k < regrets.length; k++) {
            x.regret(k, o, regrets[k]);
        }
        return o;
    }

    /** Kin, all at home in 0, and options there: for each what all regret. */
    private static KinMeet regretted(int[]... options) {
        KinMeet x = at(new int[options[0].length]);
        for (int[] o : options) {
            option(x, 0, 1, o);
        }
        return x;
    }

    private static int[] r(int... regrets) {
        return regrets;
    }

    private static void travel(KinMeet x, int option, int bring, int prices, int can) {
        D.due("BRING of " + option, x.travel(option, 0), bring);
        D.due("PRICES of " + option, x.travel(option, 1), prices);
        D.due("CAN of " + option, x.travel(option, 2), can);
    }

    private static void value(KinMeet x, int option, String e, long due) {
        D.due("RULES of " + e, Due.rules(x, "score " + e + ";"), 1);
        D.due("VALUE of " + e, x.score(option), due);
    }

    private static void milesBounds() {
        D.part("MILES between two LANDS 0 .. 9999; Promise 12, false: no such LANDS, no such MILES");
        KinMeet x = at(0);
        for (int l : NO_LANDS) {
            D.due("from " + l, x.miles(l, 0, 1), false);
            D.due("to " + l, x.miles(0, l, 1), false);
            D.due("both " + l, x.miles(l, l, 1), false);
        }
        for (int n : new int[] {-1, 10000, Integer.MIN_VALUE, Integer.MAX_VALUE}) {
            D.due(n + " MILES", x.miles(0, 1, n), false);
        }
        option(x, 5, 1, 0);
        Due.rules(x, "score sum(miles);");
        for (int n : new int[] {9999, 0, 1, 9998}) {
            D.due(n + " MILES", x.miles(0, 5, n), true);
            D.due("told", x.score(0), n);
        }
        D.due("refused", x.miles(0, 5, 10000), false);
        D.due("as before", x.score(0), 9998);
    }

    private static void milesBothTheSame() {
        D.part("Promise 12, false: both the same");
        KinMeet x = at(0, 1, 2, 3, 4, 5);
        for (int l = 0; l < 6; l++) {
            D.due("both " + l, x.miles(l, l, 0), false);
            D.due("both " + l, x.miles(l, l, 7), false);
            option(x, l, 1, 0, 0, 0, 0, 0, 0);
        }
        Due.rules(x, "score max(miles);");
        for (int l = 0; l < 6; l++) {
            D.due("0 of one itself", x.score(l), 0);
        }
    }

    private static void milesBothWays() {
        D.part("MILES, the same both ways");
        for (int a = 0; a < 6; a++) {
            for (int b = 0; b < 6; b++) {
                if (a != b) {
                    KinMeet x = at(a, b);
                    D.due("told", x.miles(b, a, 10 * a + b + 1), true);
                    option(x, b, 1, 0, 0);
                    option(x, a, 1, 0, 0);
                    Due.rules(x, "score sum(miles);");
                    D.due("there", x.score(0), 10 * a + b + 1);
                    D.due("and back", x.score(1), 10 * a + b + 1);
                }
            }
        }
    }

    private static void milesAtFirst() {
        D.part("MILES: 0 at first, and of one itself");
        KinMeet x = at(0, 1, 2, 3, 4, 5);
        for (int l = 0; l < 6; l++) {
            option(x, l, 1, 0, 0, 0, 0, 0, 0);
        }
        Due.rules(x, "score max(miles)*10000+sum(miles);");
        for (int l = 0; l < 6; l++) {
            D.due("at first", x.score(l), 0);
        }
        x.miles(2, 4, 7);
        for (int l = 0; l < 6; l++) {
            D.due("of two alone", x.score(l), l == 2 || l == 4 ? 70007 : 0);
        }
    }

    private static void optionsAtMostSix() {
        D.part("OPTIONS, at most 6, numbered from 0 on");
        KinMeet x = at(0);
        for (int i = 0; i < 6; i++) {
            D.due("count(3)", x.count(3), i);
            D.due("none yet", x.travel(i, 2), -1);
            D.due("none yet", x.regret(0, i, 0), false);
            D.due("option", x.option(i, i + 1), i);
            D.due("there", x.travel(i, 2), 0);
            D.due("there", x.regret(0, i, 0), true);
        }
        D.due("the seventh", x.option(0, 1), -1);
        D.due("six", x.count(3), 6);
        D.due("no seventh", x.travel(6, 2), -1);
        D.due("no seventh", x.regret(0, 6, 0), false);
        D.due("no seventh", x.score(6), ERROR);
        D.due("no seventh", x.judged(6, 0), -1);
        D.due("no seventh", x.meet(6), -1);
        value(x, 5, "land*10+day", 56);
        D.due("the sixth", x.meet(5), 1);
    }

    private static void optionBounds() {
        D.part("OPTIONS: a LAND, a DAY 1 .. 30; Promise 13, NONE: it can't be");
        KinMeet x = at(0);
        for (int l : NO_LANDS) {
            D.due("LAND " + l, x.option(l, 1), -1);
        }
        for (int d : NO_DAYS) {
            D.due("DAY " + d, x.option(0, d), -1);
        }
        D.due("none", x.count(3), 0);
        D.due("the least", x.option(0, 1), 0);
        D.due("the most", x.option(5, 30), 1);
        D.due("the same once more", x.option(5, 30), 2);
        value(x, 0, "land*100+day", 1);
        value(x, 1, "land*100+day", 530);
    }

    private static void optionInAMeeting() {
        D.part("From then on nothing can be told of OPTIONS; Promise 13: or a MEETING is on");
        KinMeet x = at(0);
        x.option(0, 1);
        x.meet(0);
        D.due("in a MEETING", x.option(0, 1), -1);
        D.due("in a MEETING", x.count(3), 1);
        D.due("MILES can be", x.miles(0, 1, 5), true);
        D.due("FLIGHTS can be", x.flight(0, 1, 1, 1, 1), 0);
        x.end();
        D.due("gone", x.count(3), 0);
        D.due("anew", x.option(0, 1), 0);
    }

    private static void regretBounds() {
        D.part("REGRETS 0 .. 99 of it, or CAN'T (100)");
        KinMeet x = at(0);
        x.option(0, 1);
        for (int n : new int[] {-1, 101, 102, Integer.MIN_VALUE, Integer.MAX_VALUE}) {
            D.due("regret " + n, x.regret(0, 0, n), false);
            D.due("as at first", x.score(0), 100);
        }
        for (int n : new int[] {0, 99, 100, 1, 98}) {
            D.due("regret " + n, x.regret(0, 0, n), true);
            D.due("told", x.score(0), n);
        }
        D.due("refused", x.regret(0, 0, 101), false);
        D.due("as before", x.score(0), 98);
    }

    private static void regretOfNoSuchOnes() {
        D.part("Promise 14, false: no such ones");
        KinMeet x = at(0, 0);
        D.due("no OPTIONS", x.regret(0, 0, 1), false);
        x.option(0, 1);
        x.option(0, 1);
        for (int n : new int[] {-1, 2, 10, Integer.MIN_VALUE, Integer.MAX_VALUE}) {
            D.due("kin " + n, x.regret(n, 0, 1), false);
            D.due("option " + n, x.regret(0, n, 1), false);
        }
        D.due("the last of both", x.regret(1, 1, 1), true);
        D.due("told of it", x.score(1), 101);
        D.due("not of the other", x.score(0), 200);
    }

    private static void regretInAMeeting() {
        D.part("From then on nothing can be told of REGRETS; Promise 14: or a MEETING is on");
        KinMeet x = at(0, 0);
        option(x, 0, 1, 5, 6);
        x.option(0, 2);
        x.meet(0);
        D.due("of the one met at", x.regret(0, 0, 1), false);
        D.due("of another", x.regret(0, 1, 1), false);
        D.due("as before", x.score(0), 11);
        D.due("as before", x.score(1), 200);
    }

    private static void cannotAtFirst() {
        D.part("CAN'T (100; at first)");
        KinMeet x = at(0, 0);
        x.option(0, 1);
        D.due("all", x.score(0), 200);
        travel(x, 0, 0, 0, 0);
        x.kin(0, 0, 0, 0, false);
        D.due("a new one", x.score(0), 300);
        x.regret(2, 0, 3);
        x.option(0, 1);
        D.due("a new OPTION", x.score(1), 300);
        x.meet(0);
        x.end();
        x.option(0, 1);
        D.due("a new OPTION behind a MEETING", x.score(0), 300);
        travel(x, 0, 0, 0, 0);
    }

    private static void canIfAliveAndNotCannot() {
        D.part("CAN: it is ALIVE and doesn't say it CAN'T");
        KinMeet x = at(0, 0, 0, 0);
        option(x, 0, 1, 0, 99, 100, 5);
        travel(x, 0, 3, 0, 3);
        x.note(4, 3, 0, 1);
        travel(x, 0, 3, 0, 3);
        x.years(1);
        travel(x, 0, 2, 0, 2);
        x.note(3, 1, 0, 2);
        travel(x, 0, 1, 0, 1);
        x.years(1);
        travel(x, 0, 2, 0, 2);
        D.due("one who isn't ALIVE can tell", x.regret(3, 0, 4), true);
        travel(x, 0, 2, 0, 2);
        D.due("but isn't asked", x.score(0), 0 + 99 + 100);
    }

    private static void flightsAtMostFourteen() {
        D.part("FLIGHTS, at most 14; numbered from 0 on");
        KinMeet x = at(0, 0, 0);
        option(x, 1, 1, 0, 0, 0);
        for (int i = 0; i < 14; i++) {
            D.due("count(4)", x.count(4), i);
            D.due("flight", x.flight(i < 13 ? 2 : 0, i < 13 ? 3 : 1, 1, 1, 8), i);
        }
        D.due("the fifteenth", x.flight(0, 1, 1, 9, 0), -1);
        D.due("fourteen", x.count(4), 14);
        travel(x, 0, 1, 8, 3);
    }

    private static void flightBounds() {
        D.part("FLIGHTS: on a DAY, seats 1 .. 9, a price 0 .. 999; Promise 15, NONE: it can't be");
        KinMeet x = at(0, 0, 0, 0, 0, 0, 0, 0, 0, 0);
        option(x, 5, 30, 0, 0, 0, 0, 0, 0, 0, 0, 0, 0);
        for (int l : NO_LANDS) {
            D.due("from " + l, x.flight(l, 0, 1, 1, 1), -1);
            D.due("to " + l, x.flight(0, l, 1, 1, 1), -1);
        }
        for (int d : NO_DAYS) {
            D.due("DAY " + d, x.flight(0, 5, d, 1, 1), -1);
        }
        for (int s : new int[] {-1, 0, 10, Integer.MIN_VALUE, Integer.MAX_VALUE}) {
            D.due(s + " seats", x.flight(0, 5, 1, s, 1), -1);
        }
        for (int p : new int[] {-1, 1000, Integer.MIN_VALUE, Integer.MAX_VALUE}) {
            D.due("price " + p, x.flight(0, 5, 1, 1, p), -1);
        }
        D.due("none", x.count(4), 0);
        travel(x, 0, 0, 0, 10);
        D.due("the least", x.flight(0, 5, 1, 1, 0), 0);
        travel(x, 0, 1, 0, 10);
        D.due("the most", x.flight(0, 5, 30, 9, 999), 1);
        travel(x, 0, 10, 9 * 999, 10);
    }

    private static void flightToAnotherLand() {
        D.part("FLIGHTS: from a LAND to another one");
        KinMeet x = at(0);
        for (int l = 0; l < 6; l++) {
            D.due("to itself", x.flight(l, l, 1, 1, 1), -1);
        }
        int n = 0;
        for (int l = 0; l < 6; l++) {
            D.due("to another", x.flight(l, (l + 1) % 6, 1, 1, 1), n++);
            D.due("and back", x.flight((l + 1) % 6, l, 1, 1, 1), n++);
        }
    }

    private static void refusedCallsChangeNothing() {
        D.part("Promises 12 to 15, refused");
        Look.unchanged(D, "refused", () -> {
            KinMeet x = new KinMeet();
            x.kin(0, 0, 3, 1, true);
            x.kin(1, 1, 4, 2, false);
            x.kin(2, 2, 5, 1, false);
            x.miles(0, 1, 50);
            x.miles(1, 2, 70);
            option(x, 1, 9, 3, 4, 100);
            option(x, 0, 30, 5, 5, 5);
            x.flight(0, 1, 9, 1, 30);
            x.flight(1, 0, 30, 2, 20);
            Due.rules(x, "bar fare<0;score sum(miles)+fare;");
            return x;
        }, x -> {
            x.miles(0, 1, 10000);
            x.miles(0, 1, -1);
            x.miles(1, 1, 5);
            x.miles(6, 1, 5);
            x.option(6, 1);
            x.option(0, 31);
            x.option(0, 0);
            x.regret(0, 0, 101);
            x.regret(0, 0, -1);
            x.regret(3, 0, 1);
            x.regret(0, 2, 1);
            x.flight(0, 0, 1, 1, 1);
            x.flight(0, 1, 31, 1, 1);
            x.flight(0, 1, 1, 10, 1);
            x.flight(0, 1, 1, 1, 1000);
            x.meet(2);
            x.years(100);
        });
    }

    private static void travelRefused() {
        D.part("Promise 16, NONE: no such one, what");
        KinMeet x = at(0);
        for (int w = 0; w < 3; w++) {
            D.due("no OPTIONS", x.travel(0, w), -1);
        }
        option(x, 0, 1, 0);
        option(x, 0, 1, 0);
        for (int n : new int[] {-1, 2, 6, Integer.MIN_VALUE, Integer.MAX_VALUE}) {
            for (int w = 0; w < 3; w++) {
                D.due("option " + n, x.travel(n, w), -1);
            }
        }
        for (int w : new int[] {-1, 3, 4, Integer.MIN_VALUE, Integer.MAX_VALUE}) {
            D.due("what " + w, x.travel(0, w), -1);
        }
        travel(x, 1, 1, 0, 1);
        x.meet(0);
        travel(x, 1, 1, 0, 1);
        x.end();
        D.due("gone", x.travel(0, 2), -1);
    }

    private static void flightsNotBehindTheDay() {
        D.part("For an OPTION those count whose DAY is not behind its own");
        for (int day = 1; day <= 30; day++) {
            KinMeet x = at(0, 0, 0);
            option(x, 1, day, 0, 0, 0);
            if (day > 1) {
                x.flight(0, 1, day - 1, 1, 1);
            }
            int ahead = day > 1 ? 1 : 0;
            travel(x, 0, ahead, ahead, 3);
            x.flight(0, 1, day + 1, 9, 1);
            travel(x, 0, ahead, ahead, 3);
            x.flight(0, 1, day, 1, 10);
            travel(x, 0, ahead + 1, ahead + 10, 3);
        }
        // of each OPTION its own DAY
        KinMeet y = at(0);
        option(y, 1, 5, 0);
        option(y, 1, 6, 0);
        y.flight(0, 1, 6, 1, 3);
        travel(y, 0, 0, 0, 1);
        travel(y, 1, 1, 3, 1);
    }

    private static void flightsInWhateverOrder() {
        D.part("FLIGHTS: in whatever order they are taken");
        KinMeet x = at(0);
        option(x, 3, 20, 0);
        x.flight(2, 3, 1, 1, 1);
        x.flight(1, 2, 10, 1, 2);
        x.flight(0, 1, 20, 1, 4);
        travel(x, 0, 1, 7, 1);
        KinMeet y = at(0);
        option(y, 3, 20, 0);
        y.flight(2, 3, 1, 1, 1);
        y.flight(1, 2, 21, 1, 2);
        y.flight(0, 1, 20, 1, 4);
        travel(y, 0, 0, 0, 1);
        // the longest way: five FLIGHTS
        KinMeet z = at(5);
        option(z, 0, 1, 0);
        for (int l = 1; l < 6; l++) {
            travel(z, 0, 0, 0, 1);
            z.flight(l, l - 1, 1, 1, l);
        }
        travel(z, 0, 1, 15, 1);
    }

    private static void whoIsThere() {
        D.part("Who CAN and whose HOME is its LAND is there");
        KinMeet x = at(2, 2, 3);
        option(x, 2, 1, 0, 100, 0);
        travel(x, 0, 1, 0, 2);
        x.regret(1, 0, 0);
        travel(x, 0, 2, 0, 3);
        // they take no seats
        x.flight(3, 2, 1, 1, 6);
        x.flight(2, 3, 1, 9, 0);
        travel(x, 0, 3, 6, 3);
        x.change(2, 0, 2);
        travel(x, 0, 3, 0, 3);
    }

    private static void noMoreThanSeats() {
        D.part("no more on one than it has seats");
        KinMeet x = at(0, 0, 0, 0, 0, 0, 0, 0, 0, 0);
        option(x, 1, 1, 0, 0, 0, 0, 0, 0, 0, 0, 0, 0);
        x.flight(0, 1, 1, 9, 5);
        travel(x, 0, 9, 45, 10);
        x.flight(0, 1, 1, 1, 100);
        travel(x, 0, 10, 145, 10);
        x.regret(9, 0, 100);
        travel(x, 0, 9, 45, 9);
        // on a part of the way that two come along
        KinMeet y = at(0, 2);
        option(y, 1, 1, 0, 0);
        y.flight(0, 3, 1, 9, 1);
        y.flight(2, 3, 1, 9, 2);
        y.flight(3, 1, 1, 1, 4);
        travel(y, 0, 1, 5, 2);
        y.flight(3, 1, 1, 1, 8);
        travel(y, 0, 2, 15, 2);
    }

    private static void bringNobody() {
        D.part("BRING, PRICES: of none");
        KinMeet x = new KinMeet();
        x.option(1, 1);
        travel(x, 0, 0, 0, 0);
        x.kin(0, 0, 0, 0, false);
        x.flight(0, 1, 1, 1, 7);
        travel(x, 0, 0, 0, 0);
        x.regret(0, 0, 0);
        travel(x, 0, 1, 7, 1);
        KinMeet y = at(0);
        option(y, 1, 1, 0);
        y.flight(1, 0, 1, 1, 7);
        travel(y, 0, 0, 0, 1);
    }

    private static void bringTheMost() {
        D.part("BRING: the most of all who CAN that can be there");
        // one at 0 may go by 2 or 3; those at 2 and at 3 only from there
        KinMeet x = at(0, 2, 3);
        option(x, 1, 1, 0, 0, 0);
        x.flight(0, 2, 1, 1, 0);
        x.flight(0, 3, 1, 1, 0);
        x.flight(2, 1, 1, 1, 1);
        x.flight(3, 1, 1, 2, 500);
        travel(x, 0, 3, 1001, 3);
        // the cheapest ones first would leave one behind
        KinMeet y = at(0, 2);
        option(y, 1, 1, 0, 0);
        y.flight(0, 2, 1, 1, 0);
        y.flight(2, 1, 1, 1, 0);
        y.flight(0, 1, 1, 1, 999);
        travel(y, 0, 2, 999, 2);
    }

    private static void pricesLeast() {
        D.part("PRICES: the least sum of prices with which so many are");
        KinMeet x = at(0, 0);
        option(x, 1, 1, 0, 0);
        x.flight(0, 1, 1, 1, 999);
        x.flight(0, 1, 1, 1, 998);
        travel(x, 0, 2, 1997, 2);
        x.flight(0, 1, 1, 1, 997);
        travel(x, 0, 2, 1995, 2);
        x.flight(0, 2, 1, 9, 0);
        x.flight(2, 1, 1, 9, 997);
        travel(x, 0, 2, 1994, 2);
        x.flight(2, 1, 1, 1, 0);
        travel(x, 0, 2, 997, 2);
        // more people at a greater price go ahead of fewer at a lesser one
        KinMeet y = at(0, 3);
        option(y, 1, 1, 0, 0);
        y.flight(0, 1, 1, 1, 0);
        travel(y, 0, 1, 0, 2);
        y.flight(3, 1, 1, 1, 999);
        travel(y, 0, 2, 999, 2);
    }

    private static void pricesOfNothing() {
        D.part("PRICES: FLIGHTS for 0, round and round");
        KinMeet x = at(0, 1, 2, 3);
        option(x, 5, 1, 0, 0, 0, 0);
        int[][] round = {{0, 1}, {1, 2}, {2, 3}, {3, 0}, {1, 0}, {2, 1}, {3, 2}, {0, 3}};
        for (int[] f : round) {
            x.flight(f[0], f[1], 1, 9, 0);
        }
        travel(x, 0, 0, 0, 4);
        x.flight(2, 5, 1, 3, 0);
        travel(x, 0, 3, 0, 4);
        x.flight(0, 4, 1, 1, 0);
        x.flight(4, 0, 1, 1, 0);
        travel(x, 0, 3, 0, 4);
        x.flight(4, 5, 1, 1, 0);
        travel(x, 0, 4, 0, 4);
        x.flight(5, 2, 1, 9, 0);
        travel(x, 0, 4, 0, 4);
    }

    private static void pricesOfTheMost() {
        D.part("PRICES: ten on five FLIGHTS each for 999");
        KinMeet x = at(0, 0, 0, 0, 0, 0, 0, 0, 0, 0);
        option(x, 5, 1, 0, 0, 0, 0, 0, 0, 0, 0, 0, 0);
        for (int l = 0; l < 5; l++) {
            x.flight(l, l + 1, 1, 9, 999);
        }
        travel(x, 0, 9, 9 * 5 * 999, 10);
        for (int l = 0; l < 5; l++) {
            x.flight(l, l + 1, 1, 1, 999);
        }
        travel(x, 0, 10, 10 * 5 * 999, 10);
    }

    private static void seatsGivenBackAndTakenAnew() {
        D.part("PRICES: a seat that one gave back for another is free again");
        KinMeet x = at(0, 3, 4);
        option(x, 2, 1, 0, 0, 0);
        x.flight(0, 1, 1, 1, 1);
        x.flight(1, 2, 1, 1, 1);
        x.flight(0, 2, 1, 1, 5);
        x.flight(3, 1, 1, 1, 2);
        x.flight(1, 2, 1, 1, 8);
        travel(x, 0, 2, 2 + 6, 3);
        x.flight(4, 0, 1, 1, 10);
        travel(x, 0, 3, 27, 3);
    }

    private static void fareOfAll() {
        D.part("fare: PRICES if BRING is all who CAN, else -1");
        KinMeet x = at(0, 0, 2);
        option(x, 1, 1, 100, 100, 100);
        value(x, 0, "fare", 0);
        x.regret(0, 0, 0);
        value(x, 0, "fare", -1);
        x.flight(0, 1, 1, 1, 30);
        value(x, 0, "fare", 30);
        x.regret(1, 0, 0);
        value(x, 0, "fare", -1);
        x.flight(0, 1, 1, 1, 0);
        value(x, 0, "fare", 30);
        x.regret(2, 0, 0);
        value(x, 0, "fare", -1);
        x.change(2, 0, 1);
        value(x, 0, "fare", 30);
        x.note(4, 0, 0, 0);
        value(x, 0, "fare", 0);
        Due.rules(x, "bar fare<0;");
        D.due("a bar", x.judged(0, 0), 0);
    }

    private static void comeAndWhatOneRegrets() {
        D.part("come: how many CAN. can: 1, 0; regret: as told (100 if not ALIVE)");
        KinMeet x = at(0, 0, 0);
        option(x, 0, 1, 0, 99, 100);
        value(x, 0, "come", 2);
        value(x, 0, "sum(can)", 2);
        value(x, 0, "sum(can if regret=99)", 1);
        value(x, 0, "sum(can if regret=100)", 0);
        value(x, 0, "max(regret)", 100);
        value(x, 0, "min(regret)", 0);
        x.meet(0);
        Due.rules(x, "pay regret*100+can*10+come;");
        D.due("0", x.owes(0, 0), 12);
        D.due("99", x.owes(1, 0), 9912);
        x.note(4, 1, 0, 0);
        D.due("not ALIVE", x.owes(1, 0), 10001);
        D.due("the other", x.owes(0, 0), 11);
    }

    private static void milesOfOne() {
        D.part("miles: MILES of HOME and the OPTION's LAND");
        KinMeet x = at(0, 5);
        option(x, 5, 1, 0, 0);
        option(x, 0, 1, 0, 0);
        option(x, 3, 1, 0, 0);
        x.miles(0, 5, 9999);
        x.miles(5, 3, 1);
        value(x, 0, "sum(miles*(home+1))", 9999);
        value(x, 1, "sum(miles*(home+1))", 9999 * 6);
        value(x, 2, "sum(miles*(home+1))", 6);
        x.change(0, 0, 5);
        value(x, 0, "sum(miles)", 0);
    }

    private static void outByTheFirstBar() {
        D.part("an OPTION is out by the first bar (in order, from 1 on)");
        KinMeet x = at(0);
        for (int d = 1; d <= 5; d++) {
            option(x, 0, d, 0);
        }
        D.due("no bars", x.judged(0, 0), 0);
        Due.rules(x, "bar day=1;bar day<3;score 1;bar day<4;pay 1;bar day<5;");
        for (int o = 0; o < 5; o++) {
            D.due("out by", x.judged(o, 0), o < 4 ? o + 1 : 0);
        }
        D.due("CHOICE", x.choice(), 4);
        Due.rules(x, "bar 0;bar 0;bar 0;bar 0;");
        D.due("by none of four", x.judged(0, 0), 0);
        Due.rules(x, "bar 0;bar 0;bar 0;bar 1;");
        D.due("by the fourth", x.judged(0, 0), 4);
        Due.rules(x, "bar 0;bar 1;");
        D.due("by the second of two", x.judged(0, 0), 2);
    }

    private static void outByWhatIsNotZero() {
        D.part("out by the first bar that isn't 0 or is an ERROR");
        KinMeet x = at(0);
        option(x, 0, 1, 0);
        for (String e : new String[] {"1", "-1", "2", "999999", "1/0", "1%0", "100000*10000*1000", "100000*10000*1001", "-100000*10000*1001"}) {
            Due.rules(x, "bar 0;bar " + e + ";bar 1;score 1/0;");
            D.due("out by " + e, x.judged(0, 0), 2);
            D.due("no CHOICE", x.choice(), -1);
        }
        for (String e : new String[] {"0", "-0", "1-1", "not 1", "0 and 1/0", "land"}) {
            Due.rules(x, "bar 0;bar " + e + ";");
            D.due("not out by " + e, x.judged(0, 0), 0);
            D.due("CHOICE", x.choice(), 0);
        }
    }

    private static void outByScore() {
        D.part("or, if none is so, by score, if that is an ERROR");
        KinMeet x = at(0);
        option(x, 0, 1, 0);
        Due.rules(x, "score 1/0;");
        D.due("by score", x.judged(0, 0), 5);
        Due.rules(x, "score 0;");
        D.due("not by 0", x.judged(0, 0), 0);
        Due.rules(x, "score -1;");
        D.due("not by -1", x.judged(0, 0), 0);
        Due.rules(x, "bar 0;score 1/0;bar 0;bar 0;bar 0;");
        D.due("by score", x.judged(0, 0), 5);
        Due.rules(x, "bar 0;score 1/0;bar 0;bar 0;bar 1;");
        D.due("a bar goes ahead", x.judged(0, 0), 4);
        Due.rules(x, "bar 1/0;score 1/0;");
        D.due("a bar goes ahead", x.judged(0, 0), 1);
    }

    private static void judgedRefused() {
        D.part("Promise 18, NONE: no such one, what");
        KinMeet x = at(0);
        D.due("no OPTIONS", x.judged(0, 0), -1);
        D.due("no OPTIONS", x.judged(0, 1), -1);
        option(x, 0, 1, 0);
        option(x, 0, 1, 0);
        for (int n : new int[] {-1, 2, 6, Integer.MIN_VALUE, Integer.MAX_VALUE}) {
            D.due("option " + n, x.judged(n, 0), -1);
            D.due("option " + n, x.judged(n, 1), -1);
        }
        for (int w : new int[] {-1, 2, 3, Integer.MIN_VALUE, Integer.MAX_VALUE}) {
            D.due("what " + w, x.judged(0, w), -1);
        }
        D.due("the last", x.judged(1, 0), 0);
        D.due("the last", x.judged(1, 1), 0);
    }

    private static void scoreWithoutALine() {
        D.part("SCORE: without that LINE the sum of what all ALIVE REGRET");
        KinMeet none = new KinMeet();
        none.option(0, 1);
        D.due("of none", none.score(0), 0);
        D.due("it can be chosen", none.choice(), 0);
        KinMeet x = at(0, 0, 0, 0, 0, 0, 0, 0, 0, 0);
        x.option(0, 1);
        D.due("all CAN'T", x.score(0), 1000);
        for (int k = 0; k < 10; k++) {
            x.regret(k, 0, 0);
        }
        D.due("none REGRETS", x.score(0), 0);
        x.regret(9, 0, 99);
        D.due("one", x.score(0), 99);
        x.note(4, 9, 0, 0);
        D.due("not ALIVE", x.score(0), 0);
        Due.rules(x, "bar 1;");
        D.due("with another LINE", x.score(0), 0);
    }

    private static void scoreRefused() {
        D.part("Promise 17: Long.MIN_VALUE: no such one, or an ERROR; whether a bar puts it out or not");
        KinMeet x = at(0);
        D.due("no OPTIONS", x.score(0), ERROR);
        option(x, 0, 1, 7);
        for (int n : new int[] {-1, 1, 6, Integer.MIN_VALUE, Integer.MAX_VALUE}) {
            D.due("option " + n, x.score(n), ERROR);
        }
        Due.rules(x, "bar 1;");
        D.due("out", x.score(0), 7);
        Due.rules(x, "bar 1/0;score 8;");
        D.due("out", x.score(0), 8);
        Due.rules(x, "score 1/0;");
        D.due("an ERROR", x.score(0), ERROR);
        Due.rules(x, "score -100000*10000*1000;");
        D.due("the least that is none", x.score(0), -1000000000000L);
    }

    private static void choiceOfLikeOnes() {
        D.part("CHOICE: the least SCORE, of several the least number");
        KinMeet x = regretted(r(5), r(5), r(4), r(4), r(5), r(4));
        D.due("the first of three", x.choice(), 2);
        KinMeet y = regretted(r(0), r(0), r(0), r(0), r(0), r(0));
        D.due("all alike", y.choice(), 0);
        Due.rules(y, "score 999999;");
        D.due("all alike", y.choice(), 0);
        KinMeet z = regretted(r(9), r(8), r(7), r(6), r(5), r(4));
        D.due("the last", z.choice(), 5);
        Due.rules(z, "score -1;");
        D.due("alike below 0", z.choice(), 0);
        Due.rules(z, "score -sum(regret);");
        D.due("the least below 0", z.choice(), 0);
        Due.rules(z, "score 100000*10000*1000;");
        D.due("the most of all", z.choice(), 0);
    }

    private static void choiceOfThoseNotOut() {
        D.part("CHOICE: of those not out; Promise 19, NONE: all are out, or there are no OPTIONS");
        KinMeet x = at(0);
        D.due("no OPTIONS", x.choice(), -1);
        for (int d = 1; d <= 6; d++) {
            option(x, 0, d, d);
        }
        for (int d = 1; d <= 6; d++) {
            Due.rules(x, "bar day<" + d + ";");
            D.due("the first not out", x.choice(), d - 1);
        }
        Due.rules(x, "bar day<7;");
        D.due("all are out", x.choice(), -1);
        D.due("none to MEET at", x.meet(-1), -1);
        Due.rules(x, "score 1/(day-1);");
        D.due("an ERROR is out: 1, 0, 0 ..", x.choice(), 2);
        Due.rules(x, "score 1/0;");
        D.due("all are out", x.choice(), -1);
        Due.rules(x, "bar 1/0;");
        D.due("all are out", x.choice(), -1);
    }

    private static void beats(KinMeet x, int option, int due) {
        D.due("those that " + option + " BEATS", x.judged(option, 1), due);
    }

    private static void beatsByMore() {
        D.part("BEATS another one if more REGRET it less than REGRET it more");
        KinMeet x = regretted(r(1), r(1));
        beats(x, 0, 0);
        beats(x, 1, 0);
        x.regret(0, 0, 0);
        beats(x, 0, 1);
        beats(x, 1, 0);
        KinMeet y = regretted(r(1, 9), r(2, 8));
        beats(y, 0, 0);
        beats(y, 1, 0);
        // how much less doesn't matter
        KinMeet z = regretted(r(1, 1, 99), r(2, 2, 0));
        beats(z, 0, 1);
        beats(z, 1, 0);
        KinMeet w = regretted(r(99, 5, 5), r(100, 5, 5));
        beats(w, 0, 1);
        beats(w, 1, 0);
        KinMeet v = regretted(r(100, 100), r(100, 100));
        beats(v, 0, 0);
        // ten: five to five, then six to four, then five to four
        KinMeet t = regretted(r(1, 1, 1, 1, 1, 2, 2, 2, 2, 2), r(2, 2, 2, 2, 2, 1, 1, 1, 1, 1));
        beats(t, 0, 0);
        beats(t, 1, 0);
        t.regret(5, 0, 0);
        beats(t, 0, 1);
        beats(t, 1, 0);
        t.regret(5, 0, 1);
        beats(t, 0, 1);
    }

    private static void beatsOfThoseAlive() {
        D.part("BEATS: more of those ALIVE");
        KinMeet x = regretted(r(1, 1, 9), r(2, 2, 8));
        beats(x, 0, 1);
        x.note(4, 0, 0, 0);
        beats(x, 0, 0);
        beats(x, 1, 0);
        x.note(4, 1, 0, 0);
        beats(x, 1, 1);
        x.note(4, 2, 0, 0);
        beats(x, 0, 0);
        beats(x, 1, 0);
        D.due("none alive", x.ring(), 3);
    }

    private static void beatsHowMany() {
        D.part("Promise 18, what 1: how many OPTIONS it BEATS");
        KinMeet x = regretted(r(5), r(4), r(3), r(2), r(1), r(0));
        for (int o = 0; o < 6; o++) {
            beats(x, o, o);
        }
        KinMeet y = regretted(r(7));
        beats(y, 0, 0);
        Due.rules(x, "bar 1;score 1/0;");
        beats(x, 5, 5);
    }

    private static void ringOfNone() {
        D.part("Promise 20: 0 without OPTIONS");
        KinMeet x = at(0, 0);
        D.due("none", x.ring(), 0);
        option(x, 0, 1, 5, 5);
        D.due("one", x.ring(), 1);
        x.meet(0);
        D.due("in a MEETING", x.ring(), 1);
        x.end();
        D.due("gone", x.ring(), 0);
    }

    private static void ringOfOne() {
        D.part("RING: the least set, one at least: one that BEATS all others");
        for (int best = 0; best < 6; best++) {
            int[][] all = new int[6][1];
            for (int o = 0; o < 6; o++) {
                all[o][0] = o == best ? 1 : 9;
            }
            D.due("alone", regretted(all).ring(), 1 << best);
        }
        D.due("of two the first", regretted(r(1), r(2)).ring(), 1);
        D.due("of two the second", regretted(r(2), r(1)).ring(), 2);
        D.due("CAN'T of all", regretted(r(100)).ring(), 1);
    }

    private static void ringOfLikeOnes() {
        D.part("RING: each of which BEATS each one that isn't in it: like ones are in it or out of it");
        D.due("two alike", regretted(r(1), r(1)).ring(), 3);
        D.due("six alike", regretted(r(1), r(1), r(1), r(1), r(1), r(1)).ring(), 63);
        D.due("two alike ahead of one", regretted(r(1), r(9), r(1)).ring(), 5);
        D.due("one ahead of two alike", regretted(r(9), r(1), r(9)).ring(), 2);
        // 0 and 1, 0 and 2 are like; 1 BEATS 2
        D.due("none is left out", regretted(r(5, 5), r(4, 6), r(4, 7)).ring(), 7);
        D.due("no KIN", ringWithoutKin(3), 7);
    }

    private static int ringWithoutKin(int options) {
        KinMeet x = new KinMeet();
        for (int i = 0; i < options; i++) {
            x.option(0, 1);
        }
        return x.ring();
    }

    private static void ringOfThoseThatBeatOneAnother() {
        D.part("RING: of those that BEAT one another");
        D.due("three", regretted(r(1, 2, 3), r(2, 3, 1), r(3, 1, 2)).ring(), 7);
        D.due("three, with one behind all", regretted(r(1, 2, 3), r(2, 3, 1), r(3, 1, 2), r(9, 9, 9)).ring(), 7);
        D.due("three, with one ahead of all", regretted(r(2, 3, 4), r(3, 4, 2), r(4, 2, 3), r(1, 1, 1)).ring(), 8);
        D.due("three behind others", regretted(r(9, 9, 9), r(1, 2, 3), r(8, 8, 8), r(2, 3, 1), r(3, 1, 2), r(7, 7, 7)).ring(), 26);
    }

    private static void ringOfSix() {
        D.part("RING: of six OPTIONS");
        // 0 BEATS 1, 1 BEATS 2, .. and 5, the last one, is like 0
        D.due("one like the first and like all others", regretted(r(0, 9), r(1, 9), r(2, 9), r(3, 9), r(4, 9), r(9, 0)).ring(), 63);
        D.due("two rings of three, one ahead", regretted(r(1, 2, 3), r(2, 3, 1), r(3, 1, 2), r(11, 12, 13), r(12, 13, 11), r(13, 11, 12)).ring(), 7);
        D.due("two rings of three, the other ahead", regretted(r(11, 12, 13), r(12, 13, 11), r(13, 11, 12), r(1, 2, 3), r(2, 3, 1), r(3, 1, 2)).ring(), 56);
        D.due("bars aren't asked", barred(), 56);
    }

    private static int barred() {
        KinMeet x = regretted(r(11, 12, 13), r(12, 13, 11), r(13, 11, 12), r(1, 2, 3), r(2, 3, 1), r(3, 1, 2));
        Due.rules(x, "bar 1;");
        return x.ring();
    }
}
