/** Promises 31 to 34: RECEIPTS, SHARES, PAYMENTS. */
public final class MoneyTest {
    private static final Due D = new Due();

    public static void main(String[] args) {
        receipt();
        weights();
        weightsByRule();
        shares();
        settleGroups();
        settleFirst();
        settleNone();
        D.end();
    }

    /** A meeting of those with these means. */
    private static KinMeet meeting(int... means) {
        KinMeet x = new KinMeet();
        for (int m : means) {
            x.kin(0, 0, m, 0, false);
        }
        x.option(0, 9);
        for (int k = 0; k < means.length; k++) {
            x.regret(k, 0, k);
        }
        x.meet(0);
        return x;
    }

    private static void pay(KinMeet x, int... sums) {
        for (int k = 0; k < sums.length; k++) {
            if (sums[k] > 0) {
                x.receipt(k, sums[k]);
            }
        }
    }

    private static void owes(KinMeet x, int what, long... due) {
        for (int k = 0; k < due.length; k++) {
            D.due("owes(" + k + ", " + what + ")", x.owes(k, what), due[k]);
        }
    }

    /** Each payment: who, whom, coins. */
    private static void payments(KinMeet x, int[]... due) {
        D.due("settle()", x.settle(), due.length);
        for (int k = 0; k < due.length; k++) {
            for (int w = 0; w < 3; w++) {
                D.due("payment(" + k + ", " + w + ")", x.payment(k, w), due[k][w]);
            }
        }
        D.due("no more", x.payment(due.length, 0), -1);
        D.due("none below", x.payment(-1, 0), -1);
        D.due("no such what", x.payment(0, 3), -1);
        D.due("no such what", x.payment(0, -1), -1);
    }

    private static void receipt() {
        D.part("promise 31");
        KinMeet x = new KinMeet();
        x.kin(0, 0, 0, 0, false);
        D.due("no MEETING", x.receipt(0, 5), -1);
        x = meeting(1, 1);
        x.kin(0, 0, 0, 0, false);
        D.due("no GUEST", x.receipt(2, 5), -1);
        D.due("none such", x.receipt(-1, 5), -1);
        D.due("none such", x.receipt(31, 5), -1);
        D.due("none such", x.receipt(32, 5), -1);
        D.due("no such sum", x.receipt(0, 0), -1);
        D.due("no such sum", x.receipt(0, -3), -1);
        D.due("no such sum", x.receipt(0, 100000), -1);
        D.due("receipt", x.receipt(0, 1), 1);
        for (int i = 1; i <= 10; i++) {
            D.due("the most", x.receipt(1, 99999), 99999 * i);
        }
        D.due("more than 999999", x.receipt(1, 10), -1);
        D.due("just so", x.receipt(1, 9), 999999);
        D.due("more than 999999", x.receipt(1, 1), -1);
        D.due("of the other one", x.receipt(0, 99999), 100000);
        D.due("count(8)", x.count(8), 1099999);
        x.note(4, 0, 0, 0);
        D.due("a GUEST, ALIVE or not", x.receipt(0, 1), 100001);
        x.end();
        D.due("gone", x.count(8), 0);
        D.due("no MEETING", x.receipt(0, 1), -1);
    }

    private static void weights() {
        D.part("promise 32");
        KinMeet x = meeting(1, 2, 5);
        x.kin(0, 0, 9, 0, false);
        owes(x, 0, 1, 2, 5, Long.MIN_VALUE, Long.MIN_VALUE);
        D.due("no such what", x.owes(0, 3), Long.MIN_VALUE);
        D.due("no such what", x.owes(0, -1), Long.MIN_VALUE);
        D.due("none such", x.owes(-1, 0), Long.MIN_VALUE);
        D.due("none such", x.owes(32, 0), Long.MIN_VALUE);
        owes(x, 1, 0, 0, 0);
        pay(x, 7, 0, 1);
        owes(x, 1, 1, 2, 5);
        owes(x, 2, 6, -2, -4);
        x.change(0, 2, 93);
        owes(x, 1, 8, 0, 0);
        x.guest(3, true);
        owes(x, 0, 93, 2, 5, 9);
        x.end();
        D.due("no GUEST", x.owes(0, 0), Long.MIN_VALUE);
    }

    private static void weightsByRule() {
        D.part("promise 32, by pay");
        KinMeet x = meeting(1, 2, 5);
        Due.rules(x, "pay means*10+regret+day*100;");
        owes(x, 0, 910, 921, 952);
        Due.rules(x, "pay 3-means;");
        owes(x, 0, 2, 1, 0);
        Due.rules(x, "pay 6/(means-1);");
        owes(x, 0, 0, 6, 1);
        Due.rules(x, "pay means*999999;");
        owes(x, 0, 999999, 1000000, 1000000);
        Due.rules(x, "pay sum(means)-means;");
        owes(x, 0, 7, 6, 3);
        Due.rules(x, "pay come*10+can;");
        owes(x, 0, 31, 31, 31);
        x.note(4, 1, 0, 0);
        owes(x, 0, 21, 20, 21);
        Due.rules(x, "pay regret+sum(1)*1000;");
        owes(x, 0, 2000, 2100, 2002);
        Due.rules(x, "score 1/0;bar 1;");
        owes(x, 0, 1, 2, 5);
    }

    private static void shares() {
        D.part("promise 32, shares");
        KinMeet x = meeting(0, 0, 0, 0);
        pay(x, 10);
        owes(x, 0, 0, 0, 0, 0);
        owes(x, 1, 3, 3, 2, 2);
        owes(x, 2, 7, -3, -2, -2);
        KinMeet one = meeting(0);
        pay(one, 5);
        owes(one, 1, 5);
        // one who isn't a guest gets no coin
        KinMeet some = meeting(0, 0, 0);
        some.guest(0, false);
        pay(some, 0, 0, 7);
        owes(some, 1, Long.MIN_VALUE, 4, 3);
        payments(some, new int[] {1, 2, 4});
        // the coins that are left go to those with a weight
        KinMeet y = meeting(1, 0, 1, 1);
        pay(y, 0, 0, 0, 11);
        owes(y, 1, 4, 0, 4, 3);
        Due.rules(y, "pay means*999999+1;");
        // weights 1000000, 1, 1000000, 1000000: 3.67 is cut to 3, of the two left 0 and 1 get one each
        owes(y, 1, 4, 1, 3, 3);
        KinMeet z = meeting(99, 98, 97);
        for (int i = 0; i < 10; i++) {
            pay(z, 99999, 99999, 99999);
        }
        Due.rules(z, "pay 900000+means;");
        // of 2999970: cut 999991.1.., 999990, 999988.8..; one is left
        owes(z, 1, 999992, 999990, 999988);
        owes(z, 2, -2, 0, 2);
    }

    private static void settleGroups() {
        D.part("promises 33 and 34");
        KinMeet x = new KinMeet();
        D.due("no MEETING", x.settle(), -1);
        D.due("no MEETING", x.payment(0, 0), -1);
        // balances 5, -3, -2, 4, -4 with five who pay 8 each
        x = meeting(0, 0, 0, 0, 0);
        pay(x, 13, 5, 6, 12, 4);
        owes(x, 2, 5, -3, -2, 4, -4);
        payments(x, new int[] {1, 0, 3}, new int[] {2, 0, 2}, new int[] {4, 3, 4});
        D.due("nothing is paid by it", x.owes(0, 2), 5);
        D.due("nor counted", x.count(8), 40);
        x.receipt(4, 5);
        D.due("as things are, without settle()", x.payment(0, 2), 4);
        D.due("as things are, without settle()", x.payment(1, 0), 2);
        // balances 4, -4, -3, 3, 0 of 45: 9 each
        owes(x, 2, 4, -4, -3, 3, 0);
        payments(x, new int[] {1, 0, 4}, new int[] {2, 3, 3});
        x.end();
        D.due("no MEETING", x.settle(), -1);
    }

    private static void settleFirst() {
        D.part("promise 33, the first of several");
        // balances 3, 3, -3, -3: 0 with 2 (bits 5) is ahead of 0 with 3 (bits 9)
        KinMeet x = meeting(0, 0, 0, 0);
        pay(x, 7, 7, 1, 1);
        payments(x, new int[] {2, 0, 3}, new int[] {3, 1, 3});
        // -3, -3, 3, 3, and 6, -6: groups of two, 4 with 5
        KinMeet y = meeting(0, 0, 0, 0, 0, 0);
        pay(y, 4, 4, 10, 10, 13, 1);
        owes(y, 2, -3, -3, 3, 3, 6, -6);
        payments(y, new int[] {0, 2, 3}, new int[] {1, 3, 3}, new int[] {5, 4, 6});
        // 1, 2, -3, 3, -1, -2: three groups 0+4, 1+5, 2+3, though 0+1+2 has the least bits
        KinMeet z = meeting(0, 0, 0, 0, 0, 0);
        pay(z, 6, 7, 2, 8, 4, 3);
        owes(z, 2, 1, 2, -3, 3, -1, -2);
        payments(z, new int[] {4, 0, 1}, new int[] {5, 1, 2}, new int[] {2, 3, 3});
        // one group: the least pays the least, as much as is open
        KinMeet w = meeting(0, 0, 0, 0);
        pay(w, 1, 20, 2, 17);
        owes(w, 2, -9, 10, -8, 7);
        payments(w, new int[] {0, 1, 9}, new int[] {2, 1, 1}, new int[] {2, 3, 7});
    }

    private static void settleNone() {
        D.part("promise 33, none");
        KinMeet x = meeting(1, 1);
        payments(x);
        pay(x, 5, 5);
        payments(x);
        KinMeet y = meeting();
        payments(y);
        // nine payments of ten guests
        KinMeet z = meeting(0, 0, 0, 0, 0, 0, 0, 0, 0, 0);
        pay(z, 0, 0, 0, 0, 0, 0, 0, 0, 0, 99990);
        D.due("settle()", z.settle(), 9);
        D.due("the last one", z.payment(8, 0), 8);
        D.due("coins", z.payment(8, 2), 9999);
        D.due("no tenth", z.payment(9, 0), -1);
        D.due("no eleventh", z.payment(10, 0), -1);
    }
}
