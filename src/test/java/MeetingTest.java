/** Promises 21 to 30: THE MEETING, its GUESTS, BEDS and MEALS. */
public final class MeetingTest {
    private static final Due D = new Due();

    public static void main(String[] args) {
        meet();
        guest();
        room();
        feud();
        price();
        bedSnores();
        bedCouples();
        bedMoves();
        bedCannot();
        bedFirst();
        table();
        mealNewOnes();
        mealDietsAndFeuds();
        mealLimits();
        asTold();
        D.end();
    }

    /** A meeting of so many, all of home 0, branch 0, diet 0, none of whom snores. */
    private static KinMeet meeting(int n) {
        KinMeet x = new KinMeet();
        for (int k = 0; k < n; k++) {
            x.kin(0, 0, 1, 0, false);
        }
        x.option(0, 1);
        for (int k = 0; k < n; k++) {
            x.regret(k, 0, 0);
        }
        x.meet(0);
        return x;
    }

    private static void bedded(KinMeet x, int... rooms) {
        for (int k = 0; k < rooms.length; k++) {
            D.due("bedded(" + k + ")", x.bedded(k), rooms[k]);
        }
    }

    private static void seated(KinMeet x, int meal, int... tables) {
        for (int k = 0; k < tables.length; k++) {
            D.due("seated(" + meal + ", " + k + ")", x.seated(meal, k), tables[k]);
        }
    }

    private static void meet() {
        D.part("promise 21");
        KinMeet x = new KinMeet();
        for (int k = 0; k < 4; k++) {
            x.kin(0, 0, 0, 0, false);
        }
        D.due("no options", x.meet(-1), -1);
        D.due("no options", x.meet(0), -1);
        x.option(0, 1);
        x.option(0, 2);
        x.regret(0, 0, 9);
        x.regret(1, 1, 0);
        x.regret(2, 1, 0);
        x.regret(3, 1, 0);
        x.note(4, 3, 0, 0);
        D.due("none such", x.meet(2), -1);
        D.due("none such", x.meet(-2), -1);
        Due.rules(x, "bar 1;");
        D.due("no CHOICE", x.meet(-1), -1);
        D.due("none is on", x.count(7), -1);
        x.rules(0);
        D.due("at the CHOICE", x.meet(-1), 2);
        D.due("that is 1", x.count(7), 1);
        D.due("guests", x.count(5), 2);
        D.due("one is on", x.meet(0), -1);
        D.due("one is on", x.meet(-1), -1);
        x.note(4, 1, 0, 0);
        D.due("they stay GUESTS", x.count(5), 2);
        x.end();
        D.due("options are gone", x.meet(0), -1);
        x.option(0, 1);
        Due.rules(x, "bar 1;");
        D.due("a told one that is out, and none CAN", x.meet(0), 0);
        D.due("it is on", x.count(5), 0);
    }

    private static void guest() {
        D.part("promise 22");
        KinMeet x = new KinMeet();
        for (int k = 0; k < 4; k++) {
            x.kin(0, 0, 0, 0, false);
        }
        x.option(0, 1);
        x.regret(0, 0, 0);
        x.regret(1, 0, 0);
        D.due("no MEETING", x.guest(2, true), false);
        x.meet(0);
        D.due("none such", x.guest(4, true), false);
        D.due("none such", x.guest(-1, true), false);
        D.due("so already", x.guest(0, true), false);
        D.due("so already", x.guest(2, false), false);
        D.due("one who CAN'T may come", x.guest(2, true), true);
        D.due("guests", x.count(5), 3);
        D.due("and leave", x.guest(2, false), true);
        x.note(4, 3, 0, 0);
        D.due("not ALIVE", x.guest(3, true), false);
        x.note(4, 1, 0, 0);
        D.due("may leave", x.guest(1, false), true);
        D.due("but not come back", x.guest(1, true), false);
        x.receipt(0, 1);
        D.due("has a RECEIPT", x.guest(0, false), false);
        x.end();
        D.due("no MEETING", x.guest(0, true), false);
        D.due("none", x.count(5), -1);
    }

    private static void room() {
        D.part("promise 23");
        KinMeet x = new KinMeet();
        D.due("no such beds", x.room(0), -1);
        D.due("no such beds", x.room(6), -1);
        D.due("no such beds", x.room(-1), -1);
        for (int i = 0; i < 4; i++) {
            D.due("room " + i, x.room(i == 0 ? 5 : 1), i);
        }
        D.due("the fifth", x.room(1), -1);
    }

    private static void feud() {
        D.part("promise 24");
        KinMeet x = meeting(3);
        for (int[] w : new int[][] {{-1, 0}, {0, -1}, {3, 0}, {0, 3}, {1, 1}}) {
            D.due("no such", x.feud(w[0], w[1], true), false);
            D.due("no such", x.feud(w[0], w[1], false), false);
        }
        D.due("none yet", x.feud(0, 1, false), false);
        D.due("feud", x.feud(0, 1, true), true);
        D.due("so already, either way", x.feud(1, 0, true), false);
        x.room(3);
        D.due("not in one room", x.bed(), -1);
        D.due("over, either way", x.feud(1, 0, false), true);
        D.due("so already", x.feud(0, 1, false), false);
        D.due("now they are", x.bed(), 0);
        x.feud(0, 2, true);
        x.end();
        D.due("FEUDS stay", x.feud(0, 2, true), false);
    }

    private static void price() {
        D.part("promise 25");
        KinMeet x = meeting(2);
        for (int[] w : new int[][] {{-1, 1}, {4, 1}, {0, -1}, {0, 100}, {1, 100}, {2, -1}, {2, 100}, {3, 0}, {3, 5}}) {
            D.due("no such", x.price(w[0], w[1]), false);
        }
        for (int[] w : new int[][] {{0, 0}, {0, 99}, {1, 0}, {1, 99}, {2, 0}, {2, 99}, {3, 1}, {3, 4}}) {
            D.due("price", x.price(w[0], w[1]), true);
        }
        x.change(0, 4, 1);
        x.room(2);
        D.due("a snore", x.bed(), 99);
        x.feud(0, 1, true);
        x.room(1);
        x.note(1, 0, 1, 0);
        D.due("a couple apart, one of them moves", x.bed(), 99 + 99);
    }

    private static void bedSnores() {
        D.part("promise 26, snores");
        KinMeet x = new KinMeet();
        D.due("no MEETING", x.bed(), -1);
        x = meeting(5);
        x.change(1, 4, 1);
        x.change(3, 4, 1);
        x.room(5);
        D.due("two who snore and three who don't", x.bed(), 18);
        x.room(2);
        // the two who snore move
        D.due("apart", x.bed(), 2);
        bedded(x, 0, 1, 0, 1, 0);
        D.due("once more for nothing", x.bed(), 0);
        D.due("no such one", x.bedded(5), -1);
        D.due("no such one", x.bedded(-1), -1);
    }

    private static void bedCouples() {
        D.part("promise 26, couples");
        KinMeet x = meeting(4);
        x.note(1, 0, 3, 0);
        x.note(1, 1, 2, 0);
        x.room(2);
        x.room(2);
        D.due("both in one", x.bed(), 0);
        bedded(x, 1, 0, 0, 1);
        x.note(2, 0, 3, 0);
        D.due("parted: nothing moves", x.bed(), 0);
        bedded(x, 1, 0, 0, 1);
        x.feud(1, 2, true);
        D.due("a couple with a FEUD: apart, two move", x.bed(), 5 + 2);
        // 1 with 0 or 3: the least bits in ROOM 0 that cost 7 are those of 0 and 1 (3)
        bedded(x, 0, 0, 1, 1);
        x.guest(2, false);
        x.feud(1, 2, false);
        D.due("no couple of GUESTS", x.bed(), 0);
        D.due("who left has no bed", x.bedded(2), -1);
        // a couple from another YEAR on
        KinMeet y = meeting(2);
        y.room(1);
        y.room(1);
        y.note(1, 0, 1, 1);
        D.due("not in this YEAR", y.bed(), 0);
        y.note(1, 0, 1, 0);
        D.due("in this one", y.bed(), 5);
    }

    private static void bedMoves() {
        D.part("promise 26, moves");
        KinMeet x = meeting(3);
        x.room(1);
        x.room(5);
        D.due("bed", x.bed(), 0);
        bedded(x, 1, 1, 1);
        x.guest(0, false);
        D.due("by the BEDDING at hand", x.bedded(0), 1);
        x.price(2, 0);
        x.feud(1, 2, true);
        D.due("moves for nothing", x.bed(), 0);
        // 1 and 2 apart: ROOM 0 takes the least bits, which is 1 (bit 2) before 2 (bit 4)
        bedded(x, -1, 0, 1);
        x.price(2, 4);
        x.guest(0, true);
        D.due("a new one was nowhere", x.bed(), 0);
        bedded(x, 1, 0, 1);
        x.end();
        D.due("the BEDDING is gone", x.bedded(1), -1);
        x.option(0, 1);
        x.regret(1, 0, 0);
        x.regret(2, 0, 0);
        x.meet(0);
        x.feud(1, 2, false);
        x.feud(0, 1, true);
        D.due("of this MEETING alone", x.bed(), 0);
        bedded(x, -1, 1, 1);
    }

    private static void bedCannot() {
        D.part("promise 26, can't be");
        KinMeet x = meeting(3);
        D.due("no ROOMS", x.bed(), -1);
        x.room(2);
        D.due("too few beds", x.bed(), -1);
        x.room(1);
        D.due("enough", x.bed(), 0);
        bedded(x, 0, 0, 1);
        x.feud(0, 1, true);
        x.feud(0, 2, true);
        x.feud(1, 2, true);
        D.due("three apart in two ROOMS", x.bed(), -1);
        bedded(x, 0, 0, 1);
        x.room(1);
        D.due("in three", x.bed(), 1);
        bedded(x, 0, 2, 1);
        KinMeet y = new KinMeet();
        y.option(0, 1);
        y.meet(0);
        D.due("no GUESTS, no ROOMS", y.bed(), 0);
        D.due("no GUESTS, no TABLES", y.meal(), 0);
    }

    private static void bedFirst() {
        D.part("promise 26, the first of several");
        KinMeet x = meeting(4);
        x.room(5);
        x.room(5);
        x.room(5);
        x.room(5);
        D.due("all in the last one", x.bed(), 0);
        bedded(x, 3, 3, 3, 3);
        KinMeet y = meeting(4);
        y.room(2);
        y.room(2);
        y.room(1);
        // ROOM 0 has to take one: 0 (bit 1); then ROOM 1 two, the least bits are 1 and 2
        D.due("bed", y.bed(), 0);
        bedded(y, 0, 1, 1, 2);
    }

    private static void table() {
        D.part("promise 28");
        KinMeet x = new KinMeet();
        D.due("no such seats", x.table(1), -1);
        D.due("no such seats", x.table(7), -1);
        D.due("table", x.table(2), 0);
        D.due("table", x.table(6), 1);
        D.due("table", x.table(6), 2);
        D.due("the fourth", x.table(6), -1);
    }

    private static void mealNewOnes() {
        D.part("promises 29 and 30");
        KinMeet x = new KinMeet();
        D.due("no MEETING", x.meal(), -1);
        x = meeting(4);
        D.due("no TABLES", x.meal(), -1);
        D.due("none was", x.count(6), 0);
        x.table(2);
        D.due("too few seats", x.meal(), -1);
        x.table(2);
        D.due("two twos", x.meal(), 2);
        seated(x, 0, 0, 0, 1, 1);
        D.due("two others", x.meal(), 2);
        seated(x, 1, 0, 1, 0, 1);
        D.due("the last two", x.meal(), 2);
        seated(x, 2, 1, 0, 0, 1);
        D.due("none are new", x.meal(), 0);
        seated(x, 3, 0, 0, 1, 1);
        D.due("meals", x.count(6), 4);
        x.kin(0, 0, 0, 0, false);
        x.guest(4, true);
        x.table(3);
        // 4 is new to all: three at one TABLE with it are two new twos
        D.due("with a new one", x.meal(), 2);
        D.due("no such MEAL", x.seated(5, 0), -1);
        D.due("no such MEAL", x.seated(-1, 0), -1);
        D.due("no such one", x.seated(0, 5), -1);
        D.due("no such one", x.seated(0, -1), -1);
        D.due("was no GUEST then", x.seated(0, 4), -1);
        x.guest(0, false);
        D.due("had sat", x.seated(0, 0), 0);
        x.end();
        D.due("gone", x.seated(0, 0), -1);
        x.option(0, 1);
        x.regret(0, 0, 0);
        x.regret(1, 0, 0);
        x.meet(0);
        D.due("of this MEETING: they are new again", x.meal(), 1);
    }

    private static void mealDietsAndFeuds() {
        D.part("promise 29, diets and feuds");
        KinMeet x = meeting(3);
        x.change(1, 3, 1);
        x.change(2, 3, 2);
        x.table(3);
        D.due("three diets, two at most", x.meal(), -1);
        D.due("none was", x.count(6), 0);
        x.price(3, 3);
        D.due("three", x.meal(), 3);
        x.price(3, 1);
        x.table(3);
        D.due("one diet each, two tables", x.meal(), -1);
        x.table(2);
        D.due("three tables", x.meal(), 0);
        seated(x, 1, 0, 1, 2);
        KinMeet y = meeting(4);
        y.table(4);
        y.feud(0, 3, true);
        D.due("a FEUD", y.meal(), -1);
        y.table(4);
        // 0 and 3 apart; 1 and 2 with the same one: three twos, as with 3; the least bits for TABLE 0: 0 alone
        D.due("three twos", y.meal(), 3);
        seated(y, 0, 0, 1, 1, 1);
        D.due("now with 0", y.meal(), 2);
        seated(y, 1, 0, 0, 0, 1);
    }

    /** Snores and diets as kin() told them. */
    private static void asTold() {
        D.part("promises 26 and 29, as told by kin()");
        KinMeet x = new KinMeet();
        x.kin(0, 0, 0, 0, true);
        x.kin(0, 0, 0, 3, false);
        x.kin(0, 0, 0, 2, true);
        x.option(0, 1);
        for (int k = 0; k < 3; k++) {
            x.regret(k, 0, 0);
        }
        x.meet(0);
        x.room(2);
        x.room(2);
        D.due("bed", x.bed(), 0);
        bedded(x, 1, 0, 1);
        x.table(3);
        D.due("three diets", x.meal(), -1);
        x.change(2, 3, 3);
        D.due("two", x.meal(), 3);
        x.change(0, 3, 1);
        x.price(3, 1);
        x.table(2);
        D.due("one each", x.meal(), 0);
        seated(x, 1, 0, 1, 1);
    }

    private static void mealLimits() {
        D.part("promise 29, eight");
        KinMeet x = meeting(2);
        x.table(2);
        for (int i = 0; i < 8; i++) {
            D.due("meal " + i, x.meal(), i == 0 ? 1 : 0);
        }
        D.due("the ninth", x.meal(), -1);
        D.due("eight", x.count(6), 8);
        D.due("the eighth", x.seated(7, 1), 0);
        D.due("no ninth", x.seated(8, 1), -1);
        x.end();
        D.due("none", x.count(6), 0);
        // who moves to another ROOM doesn't matter at TABLES
        KinMeet y = meeting(3);
        y.room(2);
        y.room(2);
        y.bed();
        D.due("nobody moves", y.bed(), 0);
        y.table(3);
        y.table(3);
        D.due("three twos", y.meal(), 3);
        seated(y, 0, 1, 1, 1);
    }
}
