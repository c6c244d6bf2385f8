/** Edges of ==== 5 and of promises 31 to 34: a test for each sentence that names one, under the sentence's own words. */
public final class EdgeMoneyTest {
    private static final Due D = new Due();
    private static final long NO_VALUE = Long.MIN_VALUE;
    private static final int MEANS = 2;

    public static void main(String[] args) {
        receiptSums();
        receiptsOfOneAtMost();
        receiptOfNoGuest();
        receiptWithoutAMeeting();
        receiptsOfAll();
        weightWithoutALine();
        weightOfAnErrorOrBelowZero();
        weightAtMost();
        weightOfTheOneWhoPays();
        weightByTheOptionMetAt();
        shareWithoutReceipts();
        shareCut();
        coinsLeftByNumbers();
        coinsLeftForWeightAboveZero();
        allWeightsZero();
        shareOfOne();
        sharesOfTheMost();
        balances();
        owesRefused();
        settleWithoutAMeeting();
        settleOfNothing();
        settleOfTwo();
        settleLeavesOutThoseAtZero();
        settleAsManyGroupsAsCanBe();
        settleTheFirstGroup();
        settleTheNextGroup();
        settleInAGroup();
        settleOfTen();
        settleAnew();
        settlePaysNothing();
        paymentNone();
        paymentAsThingsAre();
        receiptsAreGone();
        D.end();
    }

    /** A meeting of those with these means. */
    private static KinMeet meeting(int... means) {
        KinMeet x = new KinMeet();
        for (int m : means) {
            x.kin(0, 0, m, 0, false);
        }
        meet(x);
        return x;
    }

    private static void meet(KinMeet x) {
        int o = x.option(0, 1);
        for (int k = 0; k < x.count(0); k++) {
            x.regret(k, o, 0);
        }
        x.meet(o);
    }

    /** A meeting whose guests, with like shares, have these balances. */
    private static KinMeet balanced(int... balances) {
        KinMeet x = meeting(new int[balances.length]);
        int least = 0;
        for (int b : balances) {
            least = Math.min(least, b);
        }
        for (int k = 0; k < balances.length; k++) {
            if (balances[k] > least) {
                x.receipt(k, balances[k] - least);
            }
        }
        for (int k = 0; k < balances.length; k++) {
            D.due("BALANCE of " + k, x.owes(k, 2), balances[k]);
        }
        return x;
    }

    private static void owes(KinMeet x, int what, long... due) {
        for (int k = 0; k < due.length; k++) {
            D.due("owes(" + k + ", " + what + ")", x.owes(k, what), due[k]);
        }
    }

    /** Each payment: who pays, who gets, coins. */
    private static void payments(KinMeet x, int... due) {
        int n = due.length / 3;
        D.due("settle()", x.settle(), n);
        for (int i = 0; i < due.length; i++) {
            D.due("payment(" + i / 3 + ", " + i % 3 + ")", x.payment(i / 3, i % 3), due[i]);
        }
        for (int w = 0; w < 3; w++) {
            D.due("no more of " + w, x.payment(n, w), -1);
        }
    }

    private static void receiptSums() {
        D.part("RECEIPTS: a GUEST paid a sum (1 .. 99999); Promise 31, NONE: no such sum");
        KinMeet x = meeting(1, 1);
        for (int s : new int[] {-1, 0, 100000, 100001, Integer.MIN_VALUE, Integer.MAX_VALUE}) {
            D.due("receipt of " + s, x.receipt(0, s), -1);
            D.due("count(8)", x.count(8), 0);
        }
        D.due("the least", x.receipt(0, 1), 1);
        D.due("the most", x.receipt(0, 99999), 100000);
        D.due("the most of the other", x.receipt(1, 99999), 99999);
        D.due("the least of the other", x.receipt(1, 1), 100000);
        D.due("count(8)", x.count(8), 200000);
    }

    private static void receiptsOfOneAtMost() {
        D.part("Promise 31, NONE: or it would be more than 999999");
        KinMeet x = meeting(1, 1);
        for (int i = 1; i <= 10; i++) {
            D.due("receipt", x.receipt(0, 99999), 99999 * i);
        }
        for (int s : new int[] {10, 11, 99999}) {
            D.due("more by " + s, x.receipt(0, s), -1);
            D.due("count(8)", x.count(8), 999990);
        }
        D.due("just so much", x.receipt(0, 9), 999999);
        D.due("one more", x.receipt(0, 1), -1);
        D.due("count(8)", x.count(8), 999999);
        D.due("of the other", x.receipt(1, 1), 1);
        D.due("of the other", x.receipt(1, 99999), 100000);
        D.due("count(8)", x.count(8), 1099999);
        KinMeet y = meeting(1);
        for (int i = 1; i <= 10; i++) {
            y.receipt(0, 99999);
        }
        D.due("999998", y.receipt(0, 8), 999998);
        D.due("more by 2", y.receipt(0, 2), -1);
        D.due("just so much", y.receipt(0, 1), 999999);
    }

    private static void receiptOfNoGuest() {
        D.part("Promise 31, NONE: no GUEST");
        KinMeet x = meeting(1, 1);
        x.kin(0, 0, 0, 0, false);
        D.due("the last GUEST", x.receipt(1, 1), 1);
        D.due("one who is none", x.receipt(2, 1), -1);
        for (int k : new int[] {-1, 3, 10, 31, 32, 33, 64, Integer.MIN_VALUE, Integer.MAX_VALUE}) {
            D.due("kin " + k, x.receipt(k, 1), -1);
        }
        x.guest(0, false);
        D.due("who left", x.receipt(0, 1), -1);
        x.guest(0, true);
        D.due("who came back", x.receipt(0, 1), 1);
        x.guest(2, true);
        D.due("who came", x.receipt(2, 1), 1);
        x.note(4, 2, 0, 0);
        D.due("ALIVE or not", x.receipt(2, 1), 2);
    }

    private static void receiptWithoutAMeeting() {
        D.part("Promise 31, NONE: no MEETING is on");
        KinMeet x = new KinMeet();
        x.kin(0, 0, 0, 0, false);
        D.due("none was", x.receipt(0, 1), -1);
        meet(x);
        D.due("one is on", x.receipt(0, 1), 1);
        x.end();
        D.due("none is on", x.receipt(0, 1), -1);
        D.due("count(8)", x.count(8), 0);
    }

    private static void receiptsOfAll() {
        D.part("Promise 38, what 8: all RECEIPTS");
        KinMeet x = meeting(1, 1, 1, 1, 1, 1, 1, 1, 1, 1);
        for (int k = 0; k < 10; k++) {
            D.due("before", x.count(8), k * (k + 1) / 2);
            x.receipt(k, k + 1);
        }
        D.due("all ten", x.count(8), 55);
    }

    private static void weightWithoutALine() {
        D.part("WEIGHT: without that LINE its MEANS");
        KinMeet x = meeting(0, 1, 99);
        owes(x, 0, 0, 1, 99);
        Due.rules(x, "score 1/0;bar 1/0;host 1/0;");
        owes(x, 0, 0, 1, 99);
        Due.rules(x, "pay 7;");
        owes(x, 0, 7, 7, 7);
        x.rules(0);
        owes(x, 0, 0, 1, 99);
        x.change(0, MEANS, 50);
        owes(x, 0, 50, 1, 99);
    }

    private static void weightOfAnErrorOrBelowZero() {
        D.part("WEIGHT: 0 if it is an ERROR or below 0");
        KinMeet x = meeting(1, 1);
        for (String e : new String[] {"1/0", "0-1", "-1", "-999999", "0", "100000*10000*1001", "-100000*10000*1000", "-100000*10000*1001"}) {
            Due.rules(x, "pay " + e + ";");
            owes(x, 0, 0, 0);
        }
        Due.rules(x, "pay 1;");
        owes(x, 0, 1, 1);
        // of one alone
        KinMeet y = meeting(0, 1, 2, 3);
        Due.rules(y, "pay 6/means;");
        owes(y, 0, 0, 6, 3, 2);
        Due.rules(y, "pay means-2;");
        owes(y, 0, 0, 0, 0, 1);
    }

    private static void weightAtMost() {
        D.part("WEIGHT: 1000000 at most");
        KinMeet x = meeting(0, 1, 2);
        Due.rules(x, "pay 999999+means;");
        owes(x, 0, 999999, 1000000, 1000000);
        Due.rules(x, "pay 100000*10000*1000;");
        owes(x, 0, 1000000, 1000000, 1000000);
        Due.rules(x, "pay 100000*10000*1000+means;");
        owes(x, 0, 1000000, 0, 0);
        Due.rules(x, "pay 999998+means;");
        owes(x, 0, 999998, 999999, 1000000);
    }

    private static void weightOfTheOneWhoPays() {
        D.part("In pay: of the one who pays; within a HEAP of the one at hand there");
        KinMeet x = meeting(5, 6, 7);
        Due.rules(x, "pay means*100+sum(means);");
        owes(x, 0, 518, 618, 718);
        Due.rules(x, "pay sum(means if means>5)-means;");
        owes(x, 0, 8, 7, 6);
        Due.rules(x, "pay means+max(means)*0+means;");
        owes(x, 0, 10, 12, 14);
    }

    private static void weightByTheOptionMetAt() {
        D.part("In pay: those of an OPTION: of that met at");
        for (int o = 0; o < 6; o++) {
            KinMeet x = new KinMeet();
            x.kin(5, 0, 1, 0, false);
            x.kin(o, 0, 1, 0, false);
            for (int i = 0; i < 6; i++) {
                x.option(i, 10 + i);
                x.regret(0, i, 20 + i);
                x.regret(1, i, 30 + i);
            }
            x.miles(5, o, 7);
            x.flight(5, o, 9, 1, 40 + o);
            x.meet(o);
            Due.rules(x, "pay land*100000+day*1000+fare*10+come;");
            int fare = o == 5 ? 0 : 40 + o;
            D.due("of OPTION " + o, x.owes(0, 0), o * 100000 + (10 + o) * 1000 + fare * 10 + 2);
            D.due("of OPTION " + o, x.owes(1, 0), o * 100000 + (10 + o) * 1000 + fare * 10 + 2);
            Due.rules(x, "pay regret*100+miles*10+can;");
            D.due("0 of OPTION " + o, x.owes(0, 0), (20 + o) * 100 + (o == 5 ? 0 : 70) + 1);
            D.due("1 of OPTION " + o, x.owes(1, 0), (30 + o) * 100 + 1);
            // as things are: one who isn't ALIVE any more doesn't come
            x.note(4, 0, 0, 0);
            Due.rules(x, "pay fare*10+come;");
            D.due("come and fare", x.owes(1, 0), 1);
        }
    }

    private static void shareWithoutReceipts() {
        D.part("SHARE: without RECEIPTS");
        KinMeet x = meeting(1, 0, 99);
        owes(x, 1, 0, 0, 0);
        owes(x, 2, 0, 0, 0);
        KinMeet y = meeting(0, 0);
        owes(y, 1, 0, 0);
        owes(y, 2, 0, 0);
    }

    private static void shareCut() {
        D.part("SHARE: all RECEIPTS times WEIGHT by all WEIGHTS, cut");
        KinMeet x = meeting(1, 2, 3);
        x.receipt(2, 6);
        owes(x, 1, 1, 2, 3);
        x.receipt(0, 6);
        owes(x, 1, 2, 4, 6);
        // 13: 2 and 1 of 6, 4 and 2 of 6, 6 and 3 of 6: one is left, for the first
        x.receipt(0, 1);
        owes(x, 1, 3, 4, 6);
        // 17: 2, 5, 8 and two are left
        x.receipt(0, 4);
        owes(x, 1, 3, 6, 8);
    }

    private static void coinsLeftByNumbers() {
        D.part("of the coins left one each GUESTS, by numbers");
        long[][] due = {{1, 0, 0, 0}, {1, 1, 0, 0}, {1, 1, 1, 0}, {1, 1, 1, 1}, {2, 1, 1, 1}, {2, 2, 1, 1}};
        KinMeet x = meeting(7, 7, 7, 7);
        for (long[] d : due) {
            x.receipt(3, 1);
            owes(x, 1, d);
        }
        // as many as there are but one
        KinMeet ten = meeting(1, 1, 1, 1, 1, 1, 1, 1, 1, 1);
        ten.receipt(0, 9);
        owes(ten, 1, 1, 1, 1, 1, 1, 1, 1, 1, 1, 0);
    }

    private static void coinsLeftForWeightAboveZero() {
        D.part("of the coins left one each GUESTS with a WEIGHT above 0");
        KinMeet x = meeting(0, 1, 0, 1);
        x.receipt(0, 1);
        owes(x, 1, 0, 1, 0, 0);
        owes(x, 2, 1, -1, 0, 0);
        x.receipt(0, 1);
        owes(x, 1, 0, 1, 0, 1);
        x.receipt(0, 1);
        owes(x, 1, 0, 2, 0, 1);
        // one of the least WEIGHT gets one, too
        KinMeet y = meeting(0, 1, 99, 99);
        y.receipt(3, 2);
        owes(y, 1, 0, 1, 1, 0);
        y.guest(1, false);
        owes(y, 1, 0, NO_VALUE, 1, 1);
    }

    private static void allWeightsZero() {
        D.part("if all WEIGHTS are 0: each as if it had 1");
        KinMeet x = meeting(0, 0, 0);
        for (int sum = 1; sum <= 7; sum++) {
            x.receipt(1, 1);
            owes(x, 0, 0, 0, 0);
            owes(x, 1, (sum + 2) / 3, (sum + 1) / 3, sum / 3);
        }
        x.change(2, MEANS, 1);
        owes(x, 1, 0, 0, 7);
        x.change(2, MEANS, 0);
        Due.rules(x, "pay 1/0;");
        owes(x, 1, 3, 2, 2);
        Due.rules(x, "pay -means-1;");
        owes(x, 1, 3, 2, 2);
        // GUESTS alone
        x.guest(0, false);
        owes(x, 1, NO_VALUE, 4, 3);
    }

    private static void shareOfOne() {
        D.part("SHARE: of one GUEST");
        for (int m : new int[] {0, 1, 99}) {
            KinMeet x = meeting(m);
            x.receipt(0, 1);
            owes(x, 1, 1);
            owes(x, 2, 0);
            x.receipt(0, 99999);
            owes(x, 1, 100000);
            payments(x);
        }
        // one alone has a WEIGHT
        KinMeet y = meeting(0, 3, 0);
        y.receipt(0, 5);
        y.receipt(2, 6);
        owes(y, 1, 0, 11, 0);
        payments(y, 1, 0, 5, 1, 2, 6);
    }

    private static void sharesOfTheMost() {
        D.part("SHARE: ten paid 999999 each, at the greatest WEIGHTS");
        KinMeet x = meeting(1, 1, 1, 1, 1, 1, 1, 1, 1, 1);
        Due.rules(x, "pay 999999+means;");
        for (int k = 0; k < 10; k++) {
            for (int i = 0; i < 10; i++) {
                x.receipt(k, 99999);
            }
            D.due("all of one", x.receipt(k, 9), 999999);
        }
        D.due("all", x.count(8), 9999990);
        for (int k = 0; k < 10; k++) {
            D.due("WEIGHT", x.owes(k, 0), 1000000);
            D.due("SHARE", x.owes(k, 1), 999999);
            D.due("BALANCE", x.owes(k, 2), 0);
        }
        payments(x);
        // all on one
        KinMeet y = meeting(1, 0, 0);
        for (int k = 1; k < 3; k++) {
            for (int i = 0; i < 10; i++) {
                y.receipt(k, 99999);
            }
        }
        owes(y, 1, 1999980, 0, 0);
        owes(y, 2, -1999980, 999990, 999990);
        payments(y, 0, 1, 999990, 0, 2, 999990);
        // 1 and 1000000 and 1000000
        KinMeet z = meeting(0, 1, 1);
        Due.rules(z, "pay 1+means*999999;");
        for (int i = 0; i < 10; i++) {
            z.receipt(0, 99999);
        }
        owes(z, 0, 1, 1000000, 1000000);
        // 999990 times 1 by 2000001 is 0; of the others 499994.75, so that two are left
        owes(z, 1, 1, 499995, 499994);
    }

    private static void balances() {
        D.part("BALANCE: what it paid less its SHARE");
        KinMeet x = meeting(1, 1, 2);
        x.receipt(0, 8);
        owes(x, 2, 6, -2, -4);
        x.receipt(1, 2);
        // 10: 2, 2, 5, and one is left
        owes(x, 1, 3, 2, 5);
        owes(x, 2, 5, 0, -5);
        x.receipt(2, 5);
        // 15: 3, 3, 7, and two are left
        owes(x, 1, 4, 4, 7);
        owes(x, 2, 4, -2, -2);
    }

    private static void owesRefused() {
        D.part("Promise 32, Long.MIN_VALUE: no GUEST, what");
        KinMeet none = new KinMeet();
        none.kin(0, 0, 1, 0, false);
        for (int w = 0; w < 3; w++) {
            D.due("no MEETING", none.owes(0, w), NO_VALUE);
        }
        KinMeet x = meeting(1, 1);
        x.kin(0, 0, 5, 0, false);
        for (int w = 0; w < 3; w++) {
            D.due("the last GUEST", x.owes(1, w) >= 0, true);
            for (int k : new int[] {-1, 2, 3, 10, 31, 32, 33, Integer.MIN_VALUE, Integer.MAX_VALUE}) {
                D.due("kin " + k, x.owes(k, w), NO_VALUE);
            }
        }
        for (int w : new int[] {-1, 3, 4, Integer.MIN_VALUE, Integer.MAX_VALUE}) {
            D.due("what " + w, x.owes(0, w), NO_VALUE);
        }
        x.guest(1, false);
        D.due("who left", x.owes(1, 0), NO_VALUE);
        x.end();
        D.due("no MEETING", x.owes(0, 0), NO_VALUE);
    }

    private static void settleWithoutAMeeting() {
        D.part("Promise 33, NONE: no MEETING is on");
        KinMeet x = new KinMeet();
        x.kin(0, 0, 0, 0, false);
        D.due("none was", x.settle(), -1);
        meet(x);
        D.due("one is on", x.settle(), 0);
        x.end();
        D.due("none is on", x.settle(), -1);
    }

    private static void settleOfNothing() {
        D.part("To SETTLE: no BALANCES but 0");
        payments(meeting());
        payments(meeting(5));
        payments(meeting(0, 0, 0, 0, 0, 0, 0, 0, 0, 0));
        payments(balanced(0, 0, 0));
        KinMeet x = meeting(1, 2);
        x.receipt(0, 33);
        x.receipt(1, 66);
        payments(x);
    }

    private static void settleOfTwo() {
        D.part("To SETTLE: two with a BALANCE");
        payments(balanced(1, -1), 1, 0, 1);
        payments(balanced(-1, 1), 0, 1, 1);
        payments(balanced(0, 0, 0, 0, 0, 0, 0, 0, -9999, 9999), 8, 9, 9999);
        payments(balanced(4, 0, 0, 0, 0, 0, 0, 0, 0, -4), 9, 0, 4);
        // one coin that is left, of two with like WEIGHTS
        KinMeet x = meeting(1, 1);
        x.receipt(0, 1);
        payments(x);
        KinMeet y = meeting(1, 1);
        y.receipt(1, 1);
        payments(y, 0, 1, 1);
    }

    private static void settleLeavesOutThoseAtZero() {
        D.part("GROUPS are sets of such GUESTS: those at 0 are in none");
        payments(balanced(0, 3, 0, -3, 0), 3, 1, 3);
        payments(balanced(0, -3, 5, 0, -2), 1, 2, 3, 4, 2, 2);
        KinMeet x = balanced(2, 0, -2);
        x.kin(0, 0, 0, 0, false);
        payments(x, 2, 0, 2);
    }

    private static void settleAsManyGroupsAsCanBe() {
        D.part("as many GROUPS as can be: the fewest PAYMENTS");
        // in one GROUP four payments, in two three
        payments(balanced(5, -2, -3, 4, -4), 1, 0, 2, 2, 0, 3, 4, 3, 4);
        // {0, 1, 2} has lesser bits, but leaves one GROUP fewer
        payments(balanced(1, 2, -3, 3, -1, -2), 4, 0, 1, 5, 1, 2, 2, 3, 3);
        payments(balanced(1, -1, 2, -2, 3, -3, 4, -4, 5, -5), 1, 0, 1, 3, 2, 2, 5, 4, 3, 7, 6, 4, 9, 8, 5);
        // 6 by three, though two of them could be paid at once
        payments(balanced(6, -1, -2, -3), 1, 0, 1, 2, 0, 2, 3, 0, 3);
        payments(balanced(3, 3, -2, -2, -2), 2, 0, 2, 3, 0, 1, 3, 1, 1, 4, 1, 2);
    }

    private static void settleTheFirstGroup() {
        D.part("of several the first by the GROUP (bits, the least number) that has the least of them");
        payments(balanced(3, 3, -3, -3), 2, 0, 3, 3, 1, 3);
        payments(balanced(3, -3, -3, 3), 1, 0, 3, 2, 3, 3);
        // 0 with 1 and 2 (7) goes ahead of 0 with 3 (9): two GROUPS either way
        payments(balanced(3, -1, -2, -3, 3), 1, 0, 1, 2, 0, 2, 3, 4, 3);
        // 0 with 4 (17) goes ahead of 0 with 5 (33)
        payments(balanced(7, 7, 0, 0, -7, -7), 4, 0, 7, 5, 1, 7);
        // 0 with 1, 2 and 3 (15) goes ahead of 0 with 4 (17)
        payments(balanced(6, -1, -2, -3, -6, 6), 1, 0, 1, 2, 0, 2, 3, 0, 3, 4, 5, 6);
        payments(balanced(-6, 1, 2, 3, 6, -6), 0, 1, 1, 0, 2, 2, 0, 3, 3, 5, 4, 6);
    }

    private static void settleTheNextGroup() {
        D.part("then by that which has the least of those left, and so on");
        payments(balanced(1, 2, 2, 2, -1, -2, -2, -2), 4, 0, 1, 5, 1, 2, 6, 2, 2, 7, 3, 2);
        // behind {0, 1}: 2 with 3 and 4 goes ahead of 2 with 5
        payments(balanced(9, -9, 3, -1, -2, -3, 3), 1, 0, 9, 3, 2, 1, 4, 2, 2, 5, 6, 3);
        // the least of those left need not be the next number
        payments(balanced(1, 5, -1, -5, 2, -2), 2, 0, 1, 3, 1, 5, 5, 4, 2);
    }

    private static void settleInAGroup() {
        D.part("the least number that has to pay pays the least that has to get, as much as is open on both sides, and so on");
        payments(balanced(-4, -4, 3, 5), 0, 2, 3, 0, 3, 1, 1, 3, 4);
        payments(balanced(10, -3, -3, -4), 1, 0, 3, 2, 0, 3, 3, 0, 4);
        payments(balanced(-10, 3, 3, 4), 0, 1, 3, 0, 2, 3, 0, 3, 4);
        payments(balanced(5, -7, 5, -3), 1, 0, 5, 1, 2, 2, 3, 2, 3);
        payments(balanced(-9, 10, -8, 7), 0, 1, 9, 2, 1, 1, 2, 3, 7);
        payments(balanced(1, -3, 2), 1, 0, 1, 1, 2, 2);
        payments(balanced(-1, 3, -2), 0, 1, 1, 2, 1, 2);
    }

    private static void settleOfTen() {
        D.part("To SETTLE: ten, nine PAYMENTS");
        int[] nine = new int[10];
        int[] due = new int[27];
        for (int k = 0; k < 9; k++) {
            nine[k] = -1;
            due[3 * k] = k;
            due[3 * k + 1] = 9;
            due[3 * k + 2] = 1;
        }
        nine[9] = 9;
        payments(balanced(nine), due);
        for (int k = 0; k < 9; k++) {
            nine[k] = 1;
            due[3 * k] = 9;
            due[3 * k + 1] = k;
        }
        nine[9] = -9;
        payments(balanced(nine), due);
        payments(balanced(2, 2, 2, 2, 2, -5, -5, 0, 0, 0), 5, 0, 2, 5, 1, 2, 5, 2, 1, 6, 2, 1, 6, 3, 2, 6, 4, 2);
    }

    /** Makes the balances these, by more receipts, with like shares. */
    private static void balance(KinMeet x, int share, int... balances) {
        int sum = 0;
        long[] paid = new long[balances.length];
        for (int k = 0; k < balances.length; k++) {
            paid[k] = x.owes(k, 1) + x.owes(k, 2);
            sum += balances[k];
        }
        D.due("BALANCES together", sum, 0);
        for (int k = 0; k < balances.length; k++) {
            if (share + balances[k] > paid[k]) {
                x.receipt(k, (int) (share + balances[k] - paid[k]));
            }
        }
        for (int k = 0; k < balances.length; k++) {
            D.due("BALANCE of " + k, x.owes(k, 2), balances[k]);
        }
    }

    private static void settleAnew() {
        D.part("To SETTLE: as things are, whatever GROUPS there were");
        KinMeet x = meeting(0, 0, 0, 0, 0, 0);
        balance(x, 10, 1, -1, 2, -2, 3, -3);
        payments(x, 1, 0, 1, 3, 2, 2, 5, 4, 3);
        balance(x, 20, 5, -1, -1, -1, -1, -1);
        payments(x, 1, 0, 1, 2, 0, 1, 3, 0, 1, 4, 0, 1, 5, 0, 1);
        balance(x, 40, 4, 4, -4, -4, 0, 0);
        payments(x, 2, 0, 4, 3, 1, 4);
        balance(x, 60, 0, 0, 0, 0, 0, 0);
        payments(x);
        balance(x, 80, 7, -3, -4, 5, -2, -3);
        payments(x, 1, 0, 3, 2, 0, 4, 4, 3, 2, 5, 3, 3);
        balance(x, 100, 5, 1, -2, -2, -1, -1);
        payments(x, 2, 0, 2, 3, 0, 2, 4, 0, 1, 5, 1, 1);
        balance(x, 120, 1, 2, 3, -3, -2, -1);
        payments(x, 5, 0, 1, 4, 1, 2, 3, 2, 3);
        balance(x, 140, 3, 1, 2, -1, -2, -3);
        payments(x, 5, 0, 3, 3, 1, 1, 4, 2, 2);
        balance(x, 160, 3, 2, -5, 4, -3, -1);
        payments(x, 2, 0, 3, 2, 1, 2, 4, 3, 3, 5, 3, 1);
        balance(x, 180, 2, 3, -3, -2, 0, 0);
        payments(x, 3, 0, 2, 2, 1, 3);
    }

    private static void settlePaysNothing() {
        D.part("Promise 33: (nothing is paid by it)");
        KinMeet x = balanced(3, -3);
        for (int i = 0; i < 3; i++) {
            D.due("settle()", x.settle(), 1);
            owes(x, 2, 3, -3);
            D.due("count(8)", x.count(8), 6);
        }
        D.due("no RECEIPT of who pays", x.guest(1, false), true);
    }

    private static void paymentNone() {
        D.part("Promise 34, NONE if there is none such");
        KinMeet x = new KinMeet();
        x.kin(0, 0, 0, 0, false);
        D.due("no MEETING", x.payment(0, 0), -1);
        KinMeet y = balanced(3, -1, -2);
        for (int w = 0; w < 3; w++) {
            for (int k : new int[] {-1, 2, 3, 9, 10, 11, Integer.MIN_VALUE, Integer.MAX_VALUE}) {
                D.due("payment(" + k + ", " + w + ")", y.payment(k, w), -1);
            }
            D.due("the last", y.payment(1, w) >= 0, true);
        }
        for (int k = -1; k < 3; k++) {
            for (int w : new int[] {-1, 3, 4, Integer.MIN_VALUE, Integer.MAX_VALUE}) {
                D.due("payment(" + k + ", " + w + ")", y.payment(k, w), -1);
            }
        }
        D.due("settle()", y.settle(), 2);
        y.end();
        for (int w = 0; w < 3; w++) {
            D.due("no MEETING", y.payment(0, w), -1);
        }
        meet(y);
        D.due("of the next MEETING", y.payment(0, 0), -1);
    }

    private static void paymentAsThingsAre() {
        D.part("Promise 34: PAYMENT k, as things are");
        KinMeet x = meeting(0, 0);
        D.due("none", x.payment(0, 2), -1);
        x.receipt(0, 10);
        D.due("without settle()", x.payment(0, 2), 5);
        D.due("settle()", x.settle(), 1);
        x.receipt(1, 4);
        D.due("anew", x.payment(0, 2), 3);
        x.receipt(1, 20);
        D.due("the other way", x.payment(0, 0), 0);
        D.due("the other way", x.payment(0, 1), 1);
        D.due("the other way", x.payment(0, 2), 7);
        x.receipt(0, 14);
        D.due("none any more", x.payment(0, 2), -1);
        x.change(0, MEANS, 1);
        D.due("by MEANS", x.payment(0, 2), 24);
        Due.rules(x, "pay 1;");
        D.due("by pay", x.payment(0, 2), -1);
    }

    private static void receiptsAreGone() {
        D.part("END: RECEIPTS are gone");
        KinMeet x = balanced(5, -5);
        x.end();
        meet(x);
        D.due("count(8)", x.count(8), 0);
        owes(x, 1, 0, 0);
        payments(x);
        for (int i = 0; i < 10; i++) {
            D.due("anew", x.receipt(0, 99999), 99999 * (i + 1));
        }
    }
}
