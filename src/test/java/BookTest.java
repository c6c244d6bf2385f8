/** Promises 1 and 5 to 11: a new object, KIN, NOTES, what is known, and the YEAR. */
public final class BookTest {
    private static final Due D = new Due();

    public static void main(String[] args) {
        newObject();
        kin();
        change();
        note();
        strike();
        nearForSure();
        nearMaybe();
        told();
        years();
        D.end();
    }

    private static KinMeet withKin(int n) {
        KinMeet x = new KinMeet();
        for (int i = 0; i < n; i++) {
            x.kin(0, 0, 0, 0, false);
        }
        return x;
    }

    private static void newObject() {
        D.part("promise 1");
        KinMeet x = new KinMeet();
        int[] due = {0, 0, 0, 0, 0, -1, 0, -1, 0, 0};
        for (int w = 0; w < 10; w++) {
            D.due("count(" + w + ")", x.count(w), due[w]);
        }
        for (int b = 0; b < 4; b++) {
            D.due("times", x.branch(b, 0), 0);
            D.due("last", x.branch(b, 1), -1);
            D.due("people", x.branch(b, 2), 0);
        }
        D.due("rules(1) of an empty tape", x.rules(1), -2);
        D.due("fault(0)", x.fault(0), 0);
        D.due("fault(1)", x.fault(1), -1);
        D.due("bedded(0)", x.bedded(0), -1);
        D.due("host()", x.host(), -1);
        // two objects share nothing
        KinMeet y = new KinMeet();
        x.kin(0, 0, 0, 0, false);
        x.years(5);
        D.due("the other's KIN", y.count(0), 0);
        D.due("the other's YEAR", y.count(2), 0);
    }

    private static void kin() {
        D.part("promise 5");
        KinMeet x = new KinMeet();
        int[][] wrong = {{-1, 0, 0, 0}, {6, 0, 0, 0}, {0, -1, 0, 0}, {0, 4, 0, 0}, {0, 0, -1, 0}, {0, 0, 100, 0}, {0, 0, 0, -1}, {0, 0, 0, 4}};
        for (int[] w : wrong) {
            D.due("kin out of bounds", x.kin(w[0], w[1], w[2], w[3], true), -1);
        }
        D.due("count(0)", x.count(0), 0);
        for (int i = 0; i < 10; i++) {
            D.due("kin " + i, x.kin(5, 3, 99, 3, i % 2 == 0), i);
        }
        D.due("the eleventh", x.kin(0, 0, 0, 0, false), -1);
        D.due("count(0)", x.count(0), 10);
        D.due("people of 3", x.branch(3, 2), 10);
    }

    private static void change() {
        D.part("promise 6");
        KinMeet x = withKin(1);
        int[] most = {5, 3, 99, 3, 1};
        for (int w = 0; w < 5; w++) {
            D.due("the most", x.change(0, w, most[w]), true);
            D.due("beyond", x.change(0, w, most[w] + 1), false);
            D.due("below", x.change(0, w, -1), false);
            D.due("once more", x.change(0, w, most[w]), true);
        }
        D.due("no such what", x.change(0, 5, 0), false);
        D.due("no such what", x.change(0, -1, 0), false);
        D.due("no such kin", x.change(1, 0, 0), false);
        D.due("no such kin", x.change(-1, 0, 0), false);
        D.due("the branch is told anew", x.branch(3, 2), 1);
        x.option(5, 1);
        x.regret(0, 0, 1);
        Due.rules(x, "score sum(home*1000+means);");
        D.due("home and means told anew", x.score(0), 5099);
        x.change(0, 2, 7);
        D.due("from then on", x.score(0), 5007);
    }

    private static void note() {
        D.part("promise 7");
        KinMeet x = withKin(3);
        int[][] wrong = {{-1, 0, 1, 0}, {5, 0, 1, 0}, {0, 1, 1, 0}, {0, 0, 1, 0}, {0, 1, 0, -1}, {0, 1, 0, 2}, {0, 3, 0, 0}, {0, 1, -1, 0},
            {1, 1, 1, 5}, {1, 0, 3, 5}, {1, 3, 0, 5}, {1, 0, 1, -1}, {1, 0, 1, 1000}, {2, 2, 2, 5}, {2, 0, 1, 1000}, {2, -1, 0, 0},
            {3, 3, 0, 5}, {3, 0, 0, 1000}, {3, 0, 0, -1}, {4, 3, 0, 5}, {4, 0, 0, 1000}, {4, 0, 0, -1}};
        for (int[] w : wrong) {
            D.due("note(" + w[0] + ", " + w[1] + ", " + w[2] + ", " + w[3] + ")", x.note(w[0], w[1], w[2], w[3]), -1);
        }
        D.due("count(1)", x.count(1), 0);
        D.due("parent", x.note(0, 1, 0, 0), 0);
        D.due("maybe", x.note(0, 2, 1, 1), 1);
        D.due("couple", x.note(1, 0, 2, 0), 2);
        D.due("couple the other way", x.note(1, 2, 0, 999), 3);
        D.due("parted", x.note(2, 0, 2, 999), 4);
        D.due("born, b isn't looked at", x.note(3, 0, 77, 999), 5);
        D.due("died, b isn't looked at", x.note(4, 0, -5, 0), 6);
        for (int i = 7; i < 100; i++) {
            D.due("note " + i, x.note(3, 1, 0, 1), i);
        }
        D.due("the 101st", x.note(3, 1, 0, 1), -1);
        D.due("count(1)", x.count(1), 100);
    }

    private static void strike() {
        D.part("promise 8");
        KinMeet x = withKin(2);
        D.due("no such note", x.strike(0), -1);
        x.note(0, 1, 0, 0);
        D.due("no such note", x.strike(-1), -1);
        D.due("not yet", x.strike(1), -1);
        D.due("strike", x.strike(0), 1);
        D.due("struck", x.told(2, 0, 1, 0, 3), 0);
        D.due("as known before", x.told(1, 0, 1, 0, 3), 1);
        D.due("struck twice", x.strike(0), 2);
        D.due("a strike is struck", x.strike(1), 3);
        D.due("the other one still counts", x.told(4, 0, 1, 0, 3), 0);
        D.due("that one too", x.strike(2), 4);
        D.due("it counts again", x.told(5, 0, 1, 0, 3), 1);
        D.due("the strike of a strike is struck", x.strike(4), 5);
        D.due("and again not", x.told(6, 0, 1, 0, 3), 0);
        for (int i = 6; i < 100; i++) {
            D.due("strike " + i, x.strike(0), i);
        }
        D.due("the 101st", x.strike(0), -1);
    }

    private static void nearForSure() {
        D.part("promise 9, for sure");
        // 0 and 1 are the parents of 2 and 3; 2 of 4; 3 of 5; 4 and 5 of 6
        KinMeet x = withKin(8);
        int[][] parents = {{2, 0}, {2, 1}, {3, 0}, {3, 1}, {4, 2}, {5, 3}, {6, 4}, {6, 5}};
        for (int[] p : parents) {
            x.note(0, p[0], p[1], 0);
        }
        int n = parents.length;
        int[][] due = {{2, 3, 1, 1, 2}, {4, 5, 2, 2, 2}, {4, 3, 2, 1, 2}, {3, 4, 1, 2, 2}, {6, 2, 2, 0, 1}, {2, 6, 0, 2, 1},
            {6, 0, 3, 0, 1}, {6, 6, 0, 0, 1}, {0, 1, -1, -1, 0}, {6, 7, -1, -1, 0}, {7, 7, 0, 0, 1}};
        for (int[] d : due) {
            for (int w = 0; w < 3; w++) {
                D.due("near(" + d[0] + ", " + d[1] + ", " + w + ")", x.near(n, d[0], d[1], w), d[2 + w]);
            }
            D.due("one world", x.near(n, d[0], d[1], 3), 1);
            D.due("joined there", x.near(n, d[0], d[1], 4), d[4] > 0 ? 1 : 0);
            D.due("least", x.near(n, d[0], d[1], 5), d[4] > 0 ? d[2] + d[3] : -1);
        }
        D.due("known by 0", x.near(0, 2, 3, 0), -1);
        D.due("known by 3: one parent in common", x.near(3, 2, 3, 2), 1);
        for (int[] w : new int[][] {{-1, 0, 0, 0}, {n + 1, 0, 0, 0}, {n, -1, 0, 0}, {n, 8, 0, 0}, {n, 0, -1, 0}, {n, 0, 8, 0}, {n, 0, 0, -1}, {n, 0, 0, 6}}) {
            D.due("no such", x.near(w[0], w[1], w[2], w[3]), -2);
        }
        KinMeet y = withKin(6);
        y.note(0, 4, 3, 0);
        y.note(0, 4, 1, 0);
        y.note(0, 3, 0, 0);
        y.note(0, 5, 0, 0);
        y.note(0, 5, 2, 0);
        y.note(0, 2, 1, 0);
        // 4 and 5 meet in 0 (2 up, 1 down) and in 1 (1 up, 2 down)
        D.due("least u", y.near(6, 4, 5, 0), 1);
        D.due("its d", y.near(6, 4, 5, 1), 2);
        D.due("just these", y.near(6, 4, 5, 2), 1);
        D.due("the other way", y.near(6, 5, 4, 0), 1);
        D.due("its d", y.near(6, 5, 4, 1), 2);
        // one more in common that is farther on one side doesn't count
        KinMeet z = withKin(5);
        z.note(0, 3, 0, 0);
        z.note(0, 3, 1, 0);
        z.note(0, 4, 0, 0);
        z.note(0, 4, 2, 0);
        z.note(0, 2, 1, 0);
        D.due("0 alone, by 1 and 1", z.near(5, 3, 4, 2), 1);
        D.due("its d", z.near(5, 3, 4, 1), 1);
        D.due("the other way", z.near(5, 4, 3, 2), 1);
        z.note(0, 2, 0, 1);
        D.due("two worlds", z.near(6, 4, 3, 3), 2);
        D.due("together in any", z.near(6, 4, 3, 5), 2);
        threeParents();
    }

    private static void threeParents() {
        KinMeet x = withKin(5);
        x.note(0, 4, 0, 0);
        x.note(0, 4, 0, 0);
        x.note(0, 4, 1, 0);
        x.note(0, 4, 2, 0);
        D.due("each once, the first two", x.told(4, 0, 4, 0, 3), 2);
        D.due("the third is none", x.near(4, 4, 2, 0), -1);
        D.due("the second is one", x.near(4, 4, 1, 0), 1);
        x.strike(2);
        D.due("one struck, the third moves up", x.near(5, 4, 2, 0), 1);
        D.due("the second is none any more", x.near(5, 4, 1, 0), -1);
    }

    private static void nearMaybe() {
        D.part("promise 9, maybe");
        KinMeet x = withKin(6);
        x.note(0, 3, 0, 1);
        x.note(0, 3, 1, 1);
        x.note(0, 3, 2, 1);
        D.due("at most two of three", x.near(3, 3, 0, 3), 7);
        D.due("0 above 3 in those with it", x.near(3, 3, 0, 4), 3);
        D.due("least", x.near(3, 3, 0, 5), 1);
        D.due("not for sure", x.near(3, 3, 0, 0), -1);
        D.due("none of the kind", x.near(3, 3, 4, 5), -1);
        x.note(0, 3, 0, 1);
        D.due("each once", x.near(4, 3, 0, 3), 7);
        x.note(0, 3, 0, 0);
        D.due("for sure now: it is no maybe", x.near(5, 3, 0, 3), 3);
        D.due("in all", x.near(5, 3, 0, 4), 3);
        x.note(0, 3, 1, 0);
        D.due("two sure ones: the third can't be", x.near(6, 3, 2, 3), 1);
        D.due("in none", x.near(6, 3, 2, 4), 0);
        D.due("none", x.near(6, 3, 2, 5), -1);
        x.strike(5);
        D.due("struck: maybe again", x.near(7, 3, 1, 3), 3);
        D.due("in one", x.near(7, 3, 1, 4), 1);

        KinMeet y = withKin(10);
        for (int i = 1; i < 9; i++) {
            y.note(0, i, 0, 1);
        }
        D.due("six maybes", y.near(8, 1, 2, 3), 64);
        D.due("both below 0", y.near(8, 1, 2, 4), 16);
        D.due("the seventh is none", y.near(8, 7, 0, 5), -1);
        D.due("the sixth is one", y.near(8, 6, 0, 5), 1);
        y.strike(0);
        D.due("one struck: the seventh moves up", y.near(9, 7, 0, 5), 1);
        D.due("the eighth doesn't", y.near(9, 8, 0, 5), -1);
        // a shorter way in some world
        KinMeet z = withKin(4);
        z.note(0, 3, 2, 0);
        z.note(0, 2, 1, 0);
        z.note(0, 1, 0, 0);
        z.note(0, 3, 0, 1);
        D.due("for sure by 3", z.near(4, 3, 0, 0), 3);
        D.due("maybe by 1", z.near(4, 3, 0, 5), 1);
        D.due("in both worlds", z.near(4, 3, 0, 4), 2);
    }

    private static void told() {
        D.part("promise 10");
        KinMeet x = withKin(3);
        D.due("without notes alive", x.told(0, 0, 0, 0, 0), 1);
        D.due("without notes no age", x.told(0, 0, 0, 0, 1), -1);
        x.note(3, 0, 0, 10);
        x.note(3, 0, 0, 20);
        x.note(4, 0, 0, 50);
        x.note(4, 0, 0, 40);
        int[][] due = {{19, 0, -1}, {20, 1, 0}, {39, 1, 19}, {40, 0, 20}, {999, 0, 979}};
        for (int[] d : due) {
            D.due("alive in " + d[0], x.told(4, d[0], 0, 0, 0), d[1]);
            D.due("age in " + d[0], x.told(4, d[0], 0, 0, 1), d[2]);
        }
        D.due("as known by 3", x.told(3, 45, 0, 0, 0), 1);
        D.due("as known by 1", x.told(1, 15, 0, 0, 1), 5);
        x.strike(3);
        D.due("the later death is struck", x.told(5, 45, 0, 0, 0), 1);
        x.note(1, 1, 2, 30);
        x.note(2, 2, 1, 60);
        x.note(1, 2, 1, 50);
        int n = x.count(1);
        int[][] couples = {{29, 0}, {30, 1}, {50, 1}, {59, 1}, {60, 0}, {999, 0}};
        for (int[] c : couples) {
            D.due("couple in " + c[0], x.told(n, c[0], 1, 2, 2), c[1]);
            D.due("either way in " + c[0], x.told(n, c[0], 2, 1, 2), c[1]);
        }
        x.note(1, 1, 2, 60);
        D.due("of like YEARS the latest", x.told(n + 1, 60, 1, 2, 2), 1);
        x.note(2, 1, 2, 30);
        D.due("parted in the same YEAR", x.told(n + 2, 30, 1, 2, 2), 0);
        D.due("others are none", x.told(n, 60, 0, 1, 2), 0);
        D.due("one and the same", x.told(n, 60, 1, 1, 2), 0);
        int[][] wrong = {{-1, 0, 0, 0, 0}, {n + 3, 0, 0, 0, 0}, {n, -1, 0, 0, 0}, {n, 1000, 0, 0, 1}, {n, 1000, 0, 1, 2}, {n, 0, 3, 0, 0},
            {n, 0, -1, 0, 3}, {n, 0, 0, 3, 2}, {n, 0, 0, -1, 2}, {n, 0, 0, 0, -1}, {n, 0, 0, 0, 4}};
        for (int[] w : wrong) {
            D.due("no such", x.told(w[0], w[1], w[2], w[3], w[4]), -2);
        }
        D.due("b isn't looked at", x.told(n, 0, 0, 99, 0), 0);
        D.due("b isn't looked at", x.told(n, 25, 0, -9, 1), 5);
        D.due("the YEAR isn't looked at", x.told(n, 5000, 0, 0, 3), 0);
    }

    private static void years() {
        D.part("promise 11");
        KinMeet x = withKin(2);
        D.due("below", x.years(-1), -1);
        D.due("above", x.years(100), -1);
        for (int i = 1; i <= 10; i++) {
            D.due("99 years", x.years(99), 99 * i);
        }
        D.due("beyond", x.years(10), -1);
        D.due("still", x.count(2), 990);
        D.due("the last one", x.years(9), 999);
        D.due("none go by", x.years(0), 999);
        D.due("beyond", x.years(1), -1);
        KinMeet y = withKin(2);
        y.option(0, 1);
        y.meet(0);
        D.due("in a MEETING", y.years(0), -1);
        y.end();
        D.due("behind it", y.years(1), 1);
        y.note(3, 0, 0, 2);
        D.due("not born yet", y.branch(0, 2), 1);
        y.years(1);
        D.due("born", y.branch(0, 2), 2);
    }
}
