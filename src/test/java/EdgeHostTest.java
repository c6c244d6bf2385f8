/** Edges of ==== 6 and of promises 35 to 38: a test for each sentence that names one, under the sentence's own words. */
public final class EdgeHostTest {
    private static final Due D = new Due();
    private static final int BRANCH = 1;

    public static void main(String[] args) {
        branchesWithAliveKin();
        hostOfNone();
        hostTheGreatest();
        hostErrorsAreOut();
        hostOfLikeOnes();
        hostTheFewestTimes();
        hostLongestAgo();
        hostNeverAheadOfAll();
        hostOfLikeTurns();
        timesAndLast();
        peopleAreAlive();
        mineIsOneOrZero();
        endHasHosted();
        endWithoutAHost();
        endWithoutAMeeting();
        endWhatStays();
        endWhatIsGone();
        refusedCallsChangeNothing();
        branchThrows();
        branchOfEach();
        countOfEach();
        countOfAnotherWhat();
        countWithoutAMeeting();
        D.end();
    }

    private static KinMeet ofBranches(int... branches) {
        KinMeet x = new KinMeet();
        for (int b : branches) {
            x.kin(0, b, 1, 0, false);
        }
        return x;
    }

    private static int meetAndEnd(KinMeet x) {
        x.option(0, 1);
        x.meet(0);
        return x.end();
    }

    private static void host(KinMeet x, String e, int due) {
        D.due("RULES of " + e, Due.rules(x, "host " + e + ";"), 1);
        D.due("HOST by " + e, x.host(), due);
    }

    private static void branchesWithAliveKin() {
        D.part("HOST: of BRANCHES with ALIVE KIN");
        for (int b = 0; b < 4; b++) {
            KinMeet x = ofBranches(b);
            D.due("the only one", x.host(), b);
            host(x, "1", b);
            host(x, "-1", b);
            x.rules(0);
            x.note(4, 0, 0, 0);
            D.due("not ALIVE", x.host(), -1);
            host(x, "1", -1);
        }
        oneAfterTheOther(ofBranches(0, 1, 2, 3));
    }

    /** One after the other dies, from the first on. */
    private static void oneAfterTheOther(KinMeet x) {
        for (int b = 0; b < 4; b++) {
            D.due("the lesser of those left", x.host(), b);
            x.note(4, b, 0, 0);
        }
        D.due("none is left", x.host(), -1);
        x.strike(2);
        D.due("ALIVE again", x.host(), 2);
        x.note(3, 2, 0, 1);
        D.due("not born yet", x.host(), -1);
        x.years(1);
        D.due("born", x.host(), 2);
        x.change(2, BRANCH, 3);
        D.due("of another BRANCH now", x.host(), 3);
    }

    private static void hostOfNone() {
        D.part("Promise 35, NONE: there is none");
        KinMeet x = new KinMeet();
        D.due("no KIN", x.host(), -1);
        host(x, "1", -1);
        KinMeet y = ofBranches(0, 1, 2, 3);
        host(y, "1/0", -1);
        host(y, "1/(people-1)", -1);
        host(y, "100000*10000*1001", -1);
    }

    private static void hostTheGreatest() {
        D.part("HOST: that with the greatest VALUE of host");
        KinMeet x = ofBranches(0, 1, 1, 2, 2, 2, 3, 3, 3, 3);
        host(x, "people", 3);
        host(x, "-people", 0);
        host(x, "people=3", 2);
        host(x, "people=2", 1);
        host(x, "0-(people-2)*(people-2)", 1);
        host(x, "(people-4)*100000*10000*100", 3);
        host(x, "people*100000*10000*100", 3);
        host(x, "-people*100000*10000*100", 0);
        host(x, "-100000*10000*1000*(people>1)", 0);
        host(x, "-100000*10000*1000*(people<4)", 3);
        // not more KIN than one BRANCH has
        host(x, "sum(mine)", 3);
        host(x, "max(mine*branch)", 3);
        host(x, "min(-mine*branch)", 0);
    }

    private static void hostErrorsAreOut() {
        D.part("HOST: (ERRORS are out)");
        KinMeet x = ofBranches(0, 1, 1, 2, 2, 2, 3, 3, 3, 3);
        host(x, "12/(people-1)", 1);
        host(x, "12/(people-2)", 2);
        host(x, "-12/(people-4)", 2);
        host(x, "-9+0/(people-4)", 0);
        host(x, "-9+0/(people-1)", 1);
        host(x, "100000*10000*(900+25*people)", 3);
        host(x, "100000*10000*(900+25*people)+1", 2);
        host(x, "100000*10000*(900+30*people)", 2);
        host(x, "100000*10000*(900+40*people)", 1);
        host(x, "-100000*10000*(900+40*people)", 0);
    }

    private static void hostOfLikeOnes() {
        D.part("HOST: of several the lesser number");
        KinMeet x = ofBranches(3, 2, 1, 0);
        host(x, "5", 0);
        host(x, "-5", 0);
        host(x, "0", 0);
        host(x, "people", 0);
        KinMeet y = ofBranches(3, 2, 2, 3, 1);
        host(y, "people", 2);
        host(y, "people>0", 1);
        host(y, "people<2", 1);
    }

    private static void hostTheFewestTimes() {
        D.part("HOST without that LINE: the one that hosted the fewest times");
        KinMeet x = ofBranches(0, 1, 2, 3);
        for (int round = 0; round < 3; round++) {
            for (int b = 0; b < 4; b++) {
                D.due("HOST", x.host(), b);
                D.due("times", x.branch(b, 0), round);
                D.due("END", meetAndEnd(x), b);
                D.due("times", x.branch(b, 0), round + 1);
            }
        }
        // one that comes later has hosted less, though it did so last
        KinMeet y = ofBranches(0);
        meetAndEnd(y);
        meetAndEnd(y);
        y.years(5);
        y.kin(0, 1, 0, 0, false);
        D.due("never", meetAndEnd(y), 1);
        D.due("once, this YEAR", y.host(), 1);
        D.due("once, this YEAR", meetAndEnd(y), 1);
        D.due("twice, longer ago", y.host(), 0);
        // the one that hosted less is the lesser number, and did so later
        KinMeet z = ofBranches(1);
        meetAndEnd(z);
        meetAndEnd(z);
        z.years(5);
        z.kin(0, 0, 0, 0, false);
        D.due("never", meetAndEnd(z), 0);
        D.due("once, this YEAR", z.host(), 0);
    }

    private static void hostLongestAgo() {
        D.part("HOST: of several that which did so longest ago");
        KinMeet x = ofBranches(2);
        x.years(10);
        D.due("2", meetAndEnd(x), 2);
        x.years(1);
        x.kin(0, 0, 0, 0, false);
        D.due("0", meetAndEnd(x), 0);
        D.due("2 in 10, 0 in 11", x.host(), 2);
        x.years(1);
        x.kin(0, 1, 0, 0, false);
        D.due("1", meetAndEnd(x), 1);
        D.due("2 in 10, 0 in 11, 1 in 12", x.host(), 2);
        D.due("END", meetAndEnd(x), 2);
        D.due("0 in 11, 1 in 12", x.host(), 0);
        x.note(4, 1, 0, 0);
        D.due("1 in 12 alone", x.host(), 1);
    }

    private static void hostNeverAheadOfAll() {
        D.part("HOST: (never: ahead of all)");
        KinMeet x = ofBranches(0, 3);
        D.due("END in 0", meetAndEnd(x), 0);
        D.due("last of 0", x.branch(0, 1), 0);
        D.due("last of 3", x.branch(3, 1), -1);
        D.due("never", x.host(), 3);
        D.due("END in 0", meetAndEnd(x), 3);
        D.due("both in 0", x.host(), 0);
        x.kin(0, 2, 0, 0, false);
        D.due("never", x.host(), 2);
    }

    private static void hostOfLikeTurns() {
        D.part("HOST: of several the lesser number, without that LINE");
        KinMeet x = ofBranches(3, 2, 1);
        D.due("never, all", x.host(), 1);
        meetAndEnd(x);
        D.due("never, two", x.host(), 2);
        meetAndEnd(x);
        meetAndEnd(x);
        D.due("once in 0, all", x.host(), 1);
    }

    private static void timesAndLast() {
        D.part("times: how often it hosted; last: the YEAR in which it did last (-1)");
        KinMeet x = ofBranches(0, 1);
        host(x, "last=-1", 0);
        host(x, "times=0", 0);
        x.years(99);
        D.due("END", meetAndEnd(x), 0);
        host(x, "last=99", 0);
        host(x, "last=-1", 1);
        host(x, "times", 0);
        host(x, "-times", 1);
        x.years(99);
        Due.rules(x, "host times;");
        for (int i = 1; i < 20; i++) {
            D.due("END", meetAndEnd(x), 0);
            D.due("times", x.branch(0, 0), i + 1);
            D.due("last", x.branch(0, 1), 198);
        }
        host(x, "times=20 and last=198", 0);
        D.due("times of the other", x.branch(1, 0), 0);
        D.due("last of the other", x.branch(1, 1), -1);
        // the last YEAR
        for (int i = 0; i < 8; i++) {
            x.years(99);
        }
        x.years(9);
        D.due("THE YEAR", x.count(2), 999);
        Due.rules(x, "host -times;");
        D.due("END", meetAndEnd(x), 1);
        D.due("last", x.branch(1, 1), 999);
        host(x, "last", 1);
    }

    private static void peopleAreAlive() {
        D.part("people: its ALIVE KIN");
        KinMeet x = ofBranches(1, 1, 1, 2, 2, 2, 2, 2, 2, 2);
        D.due("1", x.branch(1, 2), 3);
        D.due("2", x.branch(2, 2), 7);
        host(x, "people=3", 1);
        host(x, "people=7", 2);
        x.note(4, 0, 0, 0);
        x.note(4, 3, 0, 1);
        D.due("1", x.branch(1, 2), 2);
        D.due("2", x.branch(2, 2), 7);
        x.years(1);
        D.due("2", x.branch(2, 2), 6);
        host(x, "people=6", 2);
        D.due("none", x.branch(0, 2), 0);
        KinMeet y = ofBranches(3, 3, 3, 3, 3, 3, 3, 3, 3, 3);
        D.due("all ten", y.branch(3, 2), 10);
        host(y, "1/(people=10)", 3);
    }

    private static void mineIsOneOrZero() {
        D.part("mine: 1 of KIN of that BRANCH, else 0");
        KinMeet x = ofBranches(0, 1, 1, 3);
        host(x, "sum(mine)=2", 1);
        host(x, "sum(mine)*2-max(mine)-min(mine)", 1);
        host(x, "sum(mine if branch=3)", 3);
        host(x, "count(not mine)=2", 1);
        host(x, "sum(mine)=people", 0);
        host(x, "0-(sum(mine)<>people)", 0);
        x.note(4, 3, 0, 0);
        host(x, "sum(mine)+sum(1 if branch=3)*9", 1);
    }

    private static void endHasHosted() {
        D.part("END: the HOST (if there is one) has hosted in THE YEAR");
        KinMeet x = ofBranches(0, 1, 2, 3);
        x.years(7);
        for (int b = 0; b < 4; b++) {
            Due.rules(x, "host max(mine*(branch=" + b + "));");
            D.due("END", meetAndEnd(x), b);
            for (int c = 0; c < 4; c++) {
                D.due("times of " + c, x.branch(c, 0), c <= b ? 1 : 0);
                D.due("last of " + c, x.branch(c, 1), c <= b ? 7 : -1);
            }
        }
        // as things are at the END, not at the beginning
        KinMeet y = ofBranches(0, 1);
        y.option(0, 1);
        y.meet(0);
        D.due("HOST", y.host(), 0);
        D.due("nothing has been hosted yet", y.branch(0, 0), 0);
        y.note(4, 0, 0, 0);
        D.due("END", y.end(), 1);
        D.due("times", y.branch(0, 0), 0);
        D.due("times", y.branch(1, 0), 1);
    }

    private static void endWithoutAHost() {
        D.part("Promise 36: NONE if there is none");
        KinMeet x = ofBranches(0);
        x.note(4, 0, 0, 0);
        x.option(0, 1);
        D.due("meet", x.meet(0), 0);
        D.due("END", x.end(), -1);
        D.due("it is over", x.end(), -2);
        D.due("OPTIONS are gone", x.count(3), 0);
        for (int b = 0; b < 4; b++) {
            D.due("times", x.branch(b, 0), 0);
            D.due("last", x.branch(b, 1), -1);
        }
        KinMeet y = ofBranches(0, 1);
        Due.rules(y, "host 1/0;");
        D.due("all are ERRORS", meetAndEnd(y), -1);
        D.due("times", y.branch(0, 0), 0);
    }

    private static void endWithoutAMeeting() {
        D.part("Promise 36, -2: no MEETING is on");
        KinMeet x = ofBranches(0);
        D.due("none was", x.end(), -2);
        x.option(0, 1);
        D.due("none is on yet", x.end(), -2);
        D.due("OPTIONS stay", x.count(3), 1);
        x.meet(0);
        D.due("one is on", x.end(), 0);
        D.due("none is on any more", x.end(), -2);
        D.due("hosted once", x.branch(0, 0), 1);
    }

    private static void endWhatStays() {
        D.part("END: ROOMS, FEUDS, TABLES, FLIGHTS, MILES stay");
        KinMeet x = ofBranches(0, 1, 2);
        x.change(1, 0, 4);
        x.room(1);
        x.room(2);
        x.table(2);
        x.table(3);
        x.feud(0, 2, true);
        x.flight(4, 0, 1, 1, 17);
        x.miles(4, 0, 300);
        x.price(0, 9);
        x.price(3, 3);
        x.note(1, 0, 1, 0);
        Due.rules(x, "score sum(miles)+fare;pay 3;");
        x.option(1, 1);
        x.meet(0);
        x.end();
        D.due("KNOTS", x.count(9), 5);
        D.due("NOTES", x.count(1), 1);
        D.due("FLIGHTS", x.count(4), 1);
        D.due("FEUDS", x.feud(2, 0, true), false);
        x.option(0, 1);
        for (int k = 0; k < 3; k++) {
            x.regret(k, 0, 1);
        }
        D.due("FLIGHTS and MILES", x.score(0), 317);
        x.change(0, 4, 1);
        D.due("meet", x.meet(0), 3);
        D.due("PRICES of BEDS, ROOMS", x.bed(), 5);
        D.due("ROOM of 0", x.bedded(0), 0);
        D.due("ROOM of 2", x.bedded(2), 1);
        x.change(1, 3, 1);
        x.change(2, 3, 2);
        D.due("TABLES", x.meal(), 1);
        D.due("the third ROOM", x.room(1), 2);
        D.due("the third TABLE", x.table(2), 2);
        D.due("RULES", x.owes(0, 0), 3);
    }

    private static void endWhatIsGone() {
        D.part("END: OPTIONS, GUESTS, BEDDING, MEALS, RECEIPTS are gone");
        KinMeet x = ofBranches(0, 1);
        x.room(2);
        x.table(2);
        x.option(0, 1);
        x.option(0, 2);
        x.regret(0, 1, 3);
        x.regret(1, 1, 3);
        x.meet(1);
        x.bed();
        x.meal();
        x.receipt(0, 5);
        x.end();
        int[] due = {2, 0, 0, 0, 0, -1, 0, -1, 0, 0};
        for (int w = 0; w < due.length; w++) {
            D.due("count(" + w + ")", x.count(w), due[w]);
        }
        D.due("CHOICE", x.choice(), -1);
        D.due("RING", x.ring(), 0);
        D.due("score", x.score(0), Long.MIN_VALUE);
        for (int k = 0; k < 2; k++) {
            D.due("bedded", x.bedded(k), -1);
            D.due("seated", x.seated(0, k), -1);
            D.due("owes", x.owes(k, 0), Long.MIN_VALUE);
        }
        D.due("settle", x.settle(), -1);
        D.due("payment", x.payment(0, 0), -1);
        x.option(0, 1);
        D.due("REGRETS are gone", x.meet(0), 0);
        D.due("no GUESTS", x.count(5), 0);
    }

    private static void refusedCallsChangeNothing() {
        D.part("Promises 36 and 37, refused");
        Look.unchanged(D, "refused", () -> {
            KinMeet x = ofBranches(0, 1, 1);
            meetAndEnd(x);
            x.years(3);
            meetAndEnd(x);
            x.option(0, 1);
            x.regret(0, 0, 1);
            return x;
        }, x -> {
            x.end();
            Due.thrownByBranch(x, 4, 0);
            Due.thrownByBranch(x, -1, 0);
            Due.thrownByBranch(x, 0, 3);
            x.count(10);
            x.count(-1);
            x.years(-1);
        });
    }

    private static void branchThrows() {
        D.part("Promise 37, IndexOutOfBoundsException: no such BRANCH. NoSuchElementException: no such what");
        KinMeet x = ofBranches(0, 3);
        for (int b : new int[] {-1, 4, 5, Integer.MIN_VALUE, Integer.MAX_VALUE}) {
            for (int w = 0; w < 3; w++) {
                D.due("branch(" + b + ", " + w + ")", Due.thrownByBranch(x, b, w), 1);
            }
        }
        for (int b = 0; b < 4; b++) {
            for (int w : new int[] {-1, 3, 4, Integer.MIN_VALUE, Integer.MAX_VALUE}) {
                D.due("branch(" + b + ", " + w + ")", Due.thrownByBranch(x, b, w), 2);
            }
            for (int w = 0; w < 3; w++) {
                D.due("branch(" + b + ", " + w + ")", Due.thrownByBranch(x, b, w), 0);
            }
        }
    }

    private static void branchOfEach() {
        D.part("Promise 37: Of a BRANCH, what 0: times, 1: last, 2: people");
        KinMeet x = ofBranches(0, 3, 3);
        int[][] due = {{0, -1, 1}, {0, -1, 0}, {0, -1, 0}, {0, -1, 2}};
        due(x, due);
        x.years(5);
        Due.rules(x, "host people;");
        meetAndEnd(x);
        due[3] = new int[] {1, 5, 2};
        due(x, due);
        x.years(1);
        meetAndEnd(x);
        due[3] = new int[] {2, 6, 2};
        due(x, due);
        x.change(1, BRANCH, 0);
        due[3][2] = 1;
        due[0][2] = 2;
        due(x, due);
    }

    private static void due(KinMeet x, int[][] due) {
        for (int b = 0; b < 4; b++) {
            for (int w = 0; w < 3; w++) {
                D.due("branch(" + b + ", " + w + ")", x.branch(b, w), due[b][w]);
            }
        }
    }

    private static void countOfEach() {
        D.part("Promise 38: 0 KIN, 1 NOTES, 2 THE YEAR, 3 OPTIONS, 4 FLIGHTS, 5 GUESTS, 6 MEALS, 7 the OPTION met at, 8 all RECEIPTS, 9 KNOTS");
        KinMeet x = new KinMeet();
        int[] due = {0, 0, 0, 0, 0, -1, 0, -1, 0, 0};
        counts(x, due);
        for (int k = 0; k < 4; k++) {
            x.kin(0, 0, 1, 0, false);
        }
        due[0] = 4;
        counts(x, due);
        x.note(3, 0, 0, 0);
        x.strike(0);
        x.strike(1);
        due[1] = 3;
        counts(x, due);
        x.years(99);
        due[2] = 99;
        counts(x, due);
        for (int o = 0; o < 5; o++) {
            x.option(0, 1);
        }
        due[3] = 5;
        counts(x, due);
        for (int f = 0; f < 6; f++) {
            x.flight(0, 1, 1, 1, 1);
        }
        due[4] = 6;
        counts(x, due);
        Due.rules(x, "score 1+2+3+4;");
        due[9] = 7;
        counts(x, due);
        x.regret(0, 4, 0);
        x.regret(1, 4, 0);
        x.meet(4);
        due[5] = 2;
        due[7] = 4;
        counts(x, due);
        x.table(2);
        x.meal();
        due[6] = 1;
        counts(x, due);
        x.receipt(0, 8);
        due[8] = 8;
        counts(x, due);
    }

    private static void counts(KinMeet x, int[] due) {
        for (int w = 0; w < due.length; w++) {
            D.due("count(" + w + ")", x.count(w), due[w]);
        }
    }

    private static void countOfAnotherWhat() {
        D.part("Promise 38, NONE for another what");
        KinMeet x = ofBranches(0);
        for (int w : new int[] {-1, 10, 11, Integer.MIN_VALUE, Integer.MAX_VALUE}) {
            D.due("count(" + w + ")", x.count(w), -1);
        }
    }

    private static void countWithoutAMeeting() {
        D.part("Promise 38: 5 GUESTS (NONE without a MEETING), 7 the OPTION met at (NONE)");
        KinMeet x = ofBranches(0);
        D.due("GUESTS", x.count(5), -1);
        D.due("the OPTION", x.count(7), -1);
        x.option(0, 1);
        D.due("GUESTS", x.count(5), -1);
        D.due("the OPTION", x.count(7), -1);
        x.meet(0);
        D.due("no GUESTS, in a MEETING", x.count(5), 0);
        D.due("the OPTION 0", x.count(7), 0);
        x.end();
        D.due("GUESTS", x.count(5), -1);
        D.due("the OPTION", x.count(7), -1);
    }
}
