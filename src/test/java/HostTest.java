/** Promises 35 to 38: HOST, END, BRANCHES, and the counts. */
public final class HostTest {
    private static final Due D = new Due();

    public static void main(String[] args) {
        hostByTurn();
        hostByRule();
        end();
        branch();
        count();
        D.end();
    }

    private static KinMeet ofBranches(int... branches) {
        KinMeet x = new KinMeet();
        for (int b : branches) {
            x.kin(0, b, b * 10, 0, false);
        }
        return x;
    }

    private static int meetAndEnd(KinMeet x) {
        x.option(0, 1);
        x.meet(0);
        return x.end();
    }

    private static void hostByTurn() {
        D.part("promise 35, by turn");
        KinMeet x = new KinMeet();
        D.due("no KIN", x.host(), -1);
        x = ofBranches(3, 1, 1);
        D.due("the lesser of those with KIN", x.host(), 1);
        D.due("asked in a MEETING too", meetAndEnd(x), 1);
        D.due("the fewest times", x.host(), 3);
        x.years(5);
        D.due("end", meetAndEnd(x), 3);
        D.due("1 did so longer ago", x.host(), 1);
        x.years(1);
        D.due("end", meetAndEnd(x), 1);
        D.due("3 fewer times", x.host(), 3);
        x.kin(0, 2, 0, 0, false);
        D.due("2 never did", x.host(), 2);
        x.note(4, 3, 0, 0);
        D.due("none of 2 is ALIVE", x.host(), 3);
        x.note(4, 0, 0, 0);
        x.note(4, 1, 0, 0);
        x.note(4, 2, 0, 0);
        D.due("none at all", x.host(), -1);
        // of like times that which did so longest ago, whatever the numbers
        KinMeet y = ofBranches(2);
        meetAndEnd(y);
        y.years(1);
        y.kin(0, 0, 0, 0, false);
        D.due("0", meetAndEnd(y), 0);
        D.due("2 did so longer ago", y.host(), 2);
        // in the same YEAR: the lesser number
        KinMeet z = ofBranches(0, 1);
        meetAndEnd(z);
        meetAndEnd(z);
        D.due("0 of like ones", z.host(), 0);
    }

    private static void hostByRule() {
        D.part("promise 35, by rule");
        KinMeet x = ofBranches(0, 1, 1, 3);
        Due.rules(x, "host people;");
        D.due("most people", x.host(), 1);
        Due.rules(x, "host 5;");
        D.due("the lesser number", x.host(), 0);
        Due.rules(x, "host -people;");
        D.due("below 0", x.host(), 0);
        Due.rules(x, "host 9/(people-1);");
        D.due("ERRORS are out", x.host(), 1);
        Due.rules(x, "host 1/0;");
        D.due("all are out", x.host(), -1);
        Due.rules(x, "host sum(means if mine);");
        D.due("3 has the most", x.host(), 3);
        Due.rules(x, "host max(branch if mine)*max(home)-people;");
        D.due("names", x.host(), 0);
        Due.rules(x, "host -times*100+last;");
        D.due("0 first", x.host(), 0);
        D.due("end", meetAndEnd(x), 0);
        D.due("then 1", x.host(), 1);
        Due.rules(x, "host last;");
        D.due("last is the YEAR, -1 without", x.host(), 0);
        Due.rules(x, "host -last;");
        D.due("-1 without", x.host(), 1);
        Due.rules(x, "host (sum(mine)=1)*(people=1)*max(branch);");
        D.due("mine is 1 or 0", x.host(), 0);
        Due.rules(x, "host (sum(mine)=2)*9;");
        D.due("mine is 1 or 0", x.host(), 1);
        x.note(3, 3, 0, 0);
        x.years(7);
        Due.rules(x, "host max(age if mine);");
        D.due("age", x.host(), 3);
        Due.rules(x, "host count(mine and means)-count(not mine);");
        D.due("count", x.host(), 1);
        x.note(4, 1, 0, 0);
        x.note(4, 2, 0, 0);
        D.due("none of 1 is ALIVE", x.host(), 3);
    }

    private static void end() {
        D.part("promise 36");
        KinMeet x = ofBranches(2, 0);
        D.due("no MEETING", x.end(), -2);
        x.years(4);
        x.flight(0, 1, 1, 1, 1);
        x.option(0, 1);
        x.regret(0, 0, 0);
        x.meet(0);
        x.room(1);
        x.table(2);
        x.receipt(0, 5);
        x.bed();
        x.meal();
        Due.rules(x, "host people*0+max(branch if mine);");
        D.due("its HOST", x.end(), 2);
        int[] due = {2, 0, 4, 0, 1, -1, 0, -1, 0};
        for (int w = 0; w < due.length; w++) {
            D.due("count(" + w + ")", x.count(w), due[w]);
        }
        D.due("times", x.branch(2, 0), 1);
        D.due("last", x.branch(2, 1), 4);
        D.due("the other", x.branch(0, 0), 0);
        D.due("bedded", x.bedded(0), -1);
        D.due("seated", x.seated(0, 0), -1);
        D.due("the ROOM stays", x.room(1), 1);
        D.due("the TABLE stays", x.table(2), 1);
        D.due("over", x.end(), -2);
        Due.rules(x, "host 1/0;");
        D.due("no HOST", meetAndEnd(x), -1);
        D.due("times", x.branch(2, 0), 1);
        D.due("the MEETING is over", x.end(), -2);
    }

    private static void branch() {
        D.part("promise 37");
        KinMeet x = ofBranches(1, 1, 3);
        for (int b : new int[] {-1, 4, Integer.MIN_VALUE, Integer.MAX_VALUE}) {
            D.due("no such BRANCH", Due.thrownByBranch(x, b, 0), 1);
            D.due("neither", Due.thrownByBranch(x, b, 7), 1);
        }
        for (int w : new int[] {-1, 3, Integer.MIN_VALUE, Integer.MAX_VALUE}) {
            D.due("no such what", Due.thrownByBranch(x, 0, w), 2);
        }
        D.due("people", x.branch(1, 2), 2);
        D.due("people", x.branch(3, 2), 1);
        D.due("people", x.branch(0, 2), 0);
        x.change(0, 1, 3);
        D.due("told anew", x.branch(3, 2), 2);
        x.note(3, 2, 0, 1);
        D.due("not born", x.branch(3, 2), 1);
        x.years(1);
        D.due("born", x.branch(3, 2), 2);
        meetAndEnd(x);
        D.due("times", x.branch(1, 0), 1);
        D.due("last", x.branch(1, 1), 1);
        D.due("never", x.branch(3, 1), -1);
    }

    private static void count() {
        D.part("promise 38");
        KinMeet x = ofBranches(0, 0, 0);
        x.note(3, 0, 0, 0);
        x.strike(0);
        x.years(6);
        x.option(0, 1);
        x.option(0, 2);
        x.flight(0, 1, 1, 1, 1);
        x.regret(0, 1, 1);
        x.regret(1, 1, 1);
        Due.rules(x, "pay 1+2;");
        x.meet(1);
        x.table(4);
        x.meal();
        x.receipt(0, 30);
        x.receipt(1, 12);
        x.receipt(1, 1);
        int[] due = {3, 2, 6, 2, 1, 2, 1, 1, 43, 3};
        for (int w = 0; w < due.length; w++) {
            D.due("count(" + w + ")", x.count(w), due[w]);
        }
        for (int w : new int[] {-1, 10, Integer.MIN_VALUE, Integer.MAX_VALUE}) {
            D.due("no such", x.count(w), -1);
        }
    }
}
