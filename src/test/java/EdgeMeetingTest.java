/** Edges of ==== 4 and of promises 21 to 30: a test for each sentence that names one, under the sentence's own words. */
public final class EdgeMeetingTest {
    private static final Due D = new Due();
    private static final int[] FAR = {-2, 10, 31, 32, 33, Integer.MIN_VALUE, Integer.MAX_VALUE};
    private static final int SNORES = 4;
    private static final int DIET = 3;
    private static final int KITCHEN = 3;

    public static void main(String[] args) {
        meetAtTheChoice();
        meetAtATold();
        meetRefused();
        guestsAreThoseWhoCan();
        guestsStay();
        guestMayLeaveAndCome();
        guestRefused();
        guestWithAReceipt();
        refusedCallsChangeNothing();
        roomsAtMostFour();
        roomOfBeds();
        feudRefused();
        feudOrNoneAnyMore();
        priceBounds();
        pricesAtFirst();
        bedWithoutAMeeting();
        bedOfNoGuests();
        noMoreThanBeds();
        noFeudInARoom();
        snoresEachSuchTwo();
        coupleInUnlikeRooms();
        coupleOfGuests();
        coupleInTheYear();
        movedByTheBeddingAtHand();
        movedOfThisMeeting();
        theOneAtHandStays();
        bedsAndMealsEachForItself();
        bedThatCostsLeast();
        bedTheFirstOfSeveral();
        bedOfTenGuests();
        bedAtTheGreatestPrices();
        beddedNone();
        tablesAtMostThree();
        tableOfSeats();
        mealWithoutAMeeting();
        mealOfNoGuests();
        mealsAtMostEight();
        noMoreThanSeats();
        noFeudAtATable();
        dietsAsKitchenSays();
        twosOfAnEarlierMeal();
        twosOfThisMeeting();
        mealThatCannotBe();
        mealTheFirstOfSeveral();
        mealOfTenGuests();
        seatedNone();
        D.end();
    }

    private static KinMeet withKin(int n) {
        KinMeet x = new KinMeet();
        for (int k = 0; k < n; k++) {
            x.kin(0, 0, 1, 0, false);
        }
        return x;
    }

    /** All kin there are come to a new meeting. */
    private static void meet(KinMeet x) {
        int o = x.option(0, 1);
        for (int k = 0; k < x.count(0); k++) {
            x.regret(k, o, 0);
        }
        D.due("meet", x.meet(o), x.count(0));
    }

    private static KinMeet meeting(int n) {
        KinMeet x = withKin(n);
        meet(x);
        return x;
    }

    private static KinMeet inRooms(int n, int... beds) {
        KinMeet x = meeting(n);
        for (int b : beds) {
            x.room(b);
        }
        return x;
    }

    private static KinMeet atTables(int n, int... seats) {
        KinMeet x = meeting(n);
        for (int s : seats) {
            x.table(s);
        }
        return x;
    }

    private static void bed(KinMeet x, int cost, int... rooms) {
        D.due("bed()", x.bed(), cost);
        bedded(x, rooms);
    }

    private static void bedded(KinMeet x, int... rooms) {
        for (int k = 0; k < rooms.length; k++) {
            D.due("bedded(" + k + ")", x.bedded(k), rooms[k]);
        }
    }

    private static void meal(KinMeet x, int twos, int... tables) {
        int meal = x.count(6);
        D.due("meal()", x.meal(), twos);
        D.due("count(6)", x.count(6), twos < 0 ? meal : meal + 1);
        for (int k = 0; k < tables.length; k++) {
            D.due("seated(" + meal + ", " + k + ")", x.seated(meal, k), tables[k]);
        }
    }

    private static void snore(KinMeet x, int... kin) {
        for (int k : kin) {
            x.change(k, SNORES, 1);
        }
    }

    private static void diets(KinMeet x, int... diets) {
        for (int k = 0; k < diets.length; k++) {
            x.change(k, DIET, diets[k]);
        }
    }

    private static void feuds(KinMeet x, int[]... pairs) {
        for (int[] p : pairs) {
            D.due("feud", x.feud(p[0], p[1], true), true);
        }
    }

    private static int[] of(int a, int b) {
        return new int[] {a, b};
    }

    private static void meetAtTheChoice() {
        D.part("To MEET: at the CHOICE; Promise 21 (NONE: at the CHOICE)");
        KinMeet x = withKin(3);
        for (int o = 0; o < 3; o++) {
            x.option(o, 1);
            for (int k = 0; k <= o; k++) {
                x.regret(k, o, 5);
            }
        }
        D.due("the last has the least SCORE", x.meet(KinMeet.NONE), 3);
        D.due("count(7)", x.count(7), 2);
        x.end();
        x.option(0, 1);
        Due.rules(x, "bar 1;");
        D.due("all are out", x.meet(-1), -1);
        D.due("no MEETING is on", x.count(5), -1);
        D.due("no MEETING is on", x.end(), -2);
    }

    private static void meetAtATold() {
        D.part("To MEET: at a told OPTION");
        for (int o = 0; o < 6; o++) {
            KinMeet x = withKin(2);
            for (int i = 0; i < 6; i++) {
                x.option(i, 1);
                x.regret(0, i, 99 - i);
            }
            Due.rules(x, "bar 1;score 1/0;");
            D.due("whether out or not", x.meet(o), 1);
            D.due("count(7)", x.count(7), o);
        }
    }

    private static void meetRefused() {
        D.part("Promise 21, NONE: there is none such, or a MEETING is on");
        KinMeet x = withKin(1);
        D.due("no OPTIONS", x.meet(-1), -1);
        D.due("no OPTIONS", x.meet(0), -1);
        x.option(0, 1);
        x.option(0, 2);
        for (int o : new int[] {-2, 2, 6, Integer.MIN_VALUE, Integer.MAX_VALUE}) {
            D.due("option " + o, x.meet(o), -1);
            D.due("none is on", x.count(5), -1);
        }
        D.due("the last", x.meet(1), 0);
        for (int o = -2; o < 3; o++) {
            D.due("one is on", x.meet(o), -1);
            D.due("at 1", x.count(7), 1);
        }
        x.end();
        D.due("OPTIONS are gone", x.meet(1), -1);
        D.due("OPTIONS are gone", x.meet(-1), -1);
    }

    private static void guestsAreThoseWhoCan() {
        D.part("GUESTS are those who CAN then");
        KinMeet x = withKin(5);
        x.option(0, 1);
        x.regret(0, 0, 99);
        x.regret(1, 0, 100);
        x.regret(2, 0, 0);
        x.regret(4, 0, 0);
        x.note(4, 4, 0, 0);
        D.due("who can't, isn't ALIVE or wasn't told stay away", x.meet(0), 2);
        D.due("0", x.owes(0, 0), 1);
        D.due("1", x.owes(1, 0), Long.MIN_VALUE);
        D.due("2", x.owes(2, 0), 1);
        D.due("3", x.owes(3, 0), Long.MIN_VALUE);
        D.due("4", x.owes(4, 0), Long.MIN_VALUE);
        x.kin(0, 0, 1, 0, false);
        D.due("a new one isn't", x.count(5), 2);
        D.due("ten", meeting(10).count(5), 10);
        D.due("none", meeting(0).count(5), 0);
    }

    private static void guestsStay() {
        D.part("they stay GUESTS, ALIVE or not");
        KinMeet x = inRooms(3, 3);
        x.table(3);
        x.note(4, 1, 0, 0);
        x.note(4, 0, 0, 0);
        D.due("GUESTS", x.count(5), 3);
        bed(x, 0, 0, 0, 0);
        meal(x, 3, 0, 0, 0);
        D.due("a RECEIPT", x.receipt(1, 5), 5);
        D.due("a WEIGHT", x.owes(0, 0), 1);
        snore(x, 0);
        bed(x, 6, 0, 0, 0);
        x.note(1, 1, 0, 0);
        x.room(1);
        x.feud(0, 1, true);
        D.due("a COUPLE, neither ALIVE", x.bed(), 5 + 1);
    }

    private static void guestMayLeaveAndCome() {
        D.part("a GUEST may leave, one who is ALIVE may come");
        KinMeet x = withKin(10);
        x.option(0, 1);
        x.meet(0);
        for (int k = 0; k < 10; k++) {
            D.due("come", x.guest(k, true), true);
            D.due("GUESTS", x.count(5), k + 1);
            D.due("so already", x.guest(k, true), false);
        }
        for (int k = 0; k < 10; k++) {
            D.due("leave", x.guest(k, false), true);
            D.due("GUESTS", x.count(5), 9 - k);
            D.due("so already", x.guest(k, false), false);
        }
        x.note(4, 3, 0, 0);
        D.due("not ALIVE", x.guest(3, true), false);
        x.strike(0);
        D.due("ALIVE", x.guest(3, true), true);
        x.note(4, 3, 0, 0);
        D.due("not ALIVE may leave", x.guest(3, false), true);
        x.note(3, 4, 0, 1);
        D.due("not born yet", x.guest(4, true), false);
    }

    private static void guestRefused() {
        D.part("Promise 22, false: no MEETING is on, none such, it is so already, not ALIVE (to come)");
        KinMeet x = withKin(2);
        D.due("no MEETING", x.guest(0, true), false);
        D.due("no MEETING", x.guest(0, false), false);
        x.option(0, 1);
        D.due("no MEETING", x.guest(0, true), false);
        x.meet(0);
        D.due("the last one", x.guest(1, true), true);
        D.due("the first that isn't", x.guest(2, true), false);
        D.due("the first that isn't", x.guest(2, false), false);
        D.due("-1", x.guest(-1, true), false);
        D.due("-1", x.guest(-1, false), false);
        for (int k : FAR) {
            D.due("kin " + k, x.guest(k, true), false);
            D.due("kin " + k, x.guest(k, false), false);
        }
        D.due("GUESTS", x.count(5), 1);
        x.end();
        D.due("no MEETING", x.guest(1, false), false);
    }

    private static void guestWithAReceipt() {
        D.part("Promise 22, false: or it has a RECEIPT (to leave)");
        KinMeet x = meeting(2);
        D.due("a refused RECEIPT is none", x.receipt(0, 0), -1);
        D.due("leave", x.guest(0, false), true);
        D.due("come", x.guest(0, true), true);
        D.due("a RECEIPT of 1", x.receipt(0, 1), 1);
        D.due("leave", x.guest(0, false), false);
        D.due("GUESTS", x.count(5), 2);
        x.note(4, 0, 0, 0);
        D.due("ALIVE or not", x.guest(0, false), false);
        D.due("the other may", x.guest(1, false), true);
    }

    private static void refusedCallsChangeNothing() {
        D.part("Promises 21 to 34, refused");
        Look.unchanged(D, "refused", () -> {
            KinMeet x = new KinMeet();
            x.kin(0, 0, 3, 1, true);
            x.kin(1, 1, 4, 2, false);
            x.kin(2, 2, 5, 1, false);
            x.kin(2, 3, 5, 1, false);
            x.note(1, 0, 1, 0);
            x.option(1, 9);
            x.option(2, 9);
            for (int k = 0; k < 3; k++) {
                x.regret(k, 1, 5 * k);
            }
            x.meet(1);
            x.room(2);
            x.room(2);
            x.table(2);
            x.table(2);
            x.feud(0, 1, true);
            x.bed();
            x.meal();
            x.receipt(0, 50);
            x.receipt(2, 7);
            x.note(4, 3, 0, 0);
            return x;
        }, x -> {
            x.meet(-1);
            x.meet(0);
            x.guest(0, true);
            x.guest(3, true);
            x.guest(3, false);
            x.guest(0, false);
            x.guest(4, true);
            x.room(0);
            x.room(6);
            x.feud(0, 0, true);
            x.feud(1, 0, true);
            x.feud(1, 2, false);
            x.feud(4, 0, true);
            x.price(0, 100);
            x.price(1, -1);
            x.price(2, 100);
            x.price(3, 0);
            x.price(3, 5);
            x.price(4, 1);
            x.table(1);
            x.table(7);
            x.receipt(3, 5);
            x.receipt(0, 0);
            x.receipt(0, 100000);
            x.option(0, 1);
            x.regret(0, 0, 5);
            x.years(1);
            x.settle();
            x.owes(3, 1);
            x.payment(9, 0);
        });
        Look.unchanged(D, "refused without a MEETING", () -> {
            KinMeet x = withKin(3);
            x.room(3);
            x.table(3);
            x.option(0, 1);
            x.regret(0, 0, 4);
            return x;
        }, x -> {
            x.guest(0, true);
            x.bed();
            x.meal();
            x.receipt(0, 5);
            x.settle();
            x.end();
            x.meet(1);
        });
    }

    private static void roomsAtMostFour() {
        D.part("ROOMS, at most 4; Promise 23, NONE: or there are 4");
        KinMeet x = meeting(5);
        for (int i = 0; i < 4; i++) {
            D.due("too few yet", x.bed(), -1);
            D.due("room", x.room(1), i);
        }
        D.due("the fifth", x.room(1), -1);
        D.due("the fifth", x.room(5), -1);
        D.due("four beds", x.bed(), -1);
        x.guest(4, false);
        bed(x, 0, 0, 1, 2, 3);
        x.end();
        D.due("ROOMS stay", x.room(1), -1);
    }

    private static void roomOfBeds() {
        D.part("ROOMS of 1 .. 5 beds; Promise 23, NONE: no such beds");
        KinMeet x = new KinMeet();
        for (int b : new int[] {-1, 0, 6, 7, Integer.MIN_VALUE, Integer.MAX_VALUE}) {
            D.due(b + " beds", x.room(b), -1);
        }
        D.due("the least", x.room(1), 0);
        D.due("the most", x.room(5), 1);
        for (int b = 1; b <= 5; b++) {
            KinMeet fits = inRooms(b, b);
            D.due("as many GUESTS as beds", fits.bed(), 0);
            fits.kin(0, 0, 0, 0, false);
            fits.guest(b, true);
            D.due("one more", fits.bed(), -1);
        }
    }

    private static void feudRefused() {
        D.part("Promise 24, false: no such ones, both the same, or it is so already");
        KinMeet none = new KinMeet();
        D.due("no KIN", none.feud(0, 1, true), false);
        KinMeet x = withKin(3);
        for (int k : new int[] {-1, 3, 10, 31, 32, Integer.MIN_VALUE, Integer.MAX_VALUE}) {
            for (boolean on : new boolean[] {true, false}) {
                D.due("a " + k, x.feud(k, 0, on), false);
                D.due("b " + k, x.feud(0, k, on), false);
                D.due("both " + k, x.feud(k, k, on), false);
            }
        }
        for (int k = 0; k < 3; k++) {
            D.due("both the same", x.feud(k, k, true), false);
            D.due("both the same", x.feud(k, k, false), false);
        }
        for (int a = 0; a < 3; a++) {
            for (int b = 0; b < a; b++) {
                D.due("none yet", x.feud(a, b, false), false);
                D.due("a FEUD", x.feud(a, b, true), true);
                D.due("so already", x.feud(a, b, true), false);
                D.due("so already, either way", x.feud(b, a, true), false);
                D.due("none any more, either way", x.feud(b, a, false), true);
                D.due("so already", x.feud(a, b, false), false);
                D.due("so already, either way", x.feud(b, a, false), false);
            }
        }
    }

    private static void feudOrNoneAnyMore() {
        D.part("Promise 24: A FEUD, or none any more; FEUDS stay");
        KinMeet x = inRooms(2, 2);
        feuds(x, of(0, 1));
        D.due("a FEUD", x.bed(), -1);
        x.end();
        meet(x);
        D.due("it stays", x.bed(), -1);
        x.feud(1, 0, false);
        D.due("none any more", x.bed(), 0);
        // of all ten with all ten
        KinMeet y = withKin(10);
        for (int a = 0; a < 10; a++) {
            for (int b = 0; b < a; b++) {
                D.due("a FEUD", y.feud(a, b, true), true);
            }
        }
        D.due("so already", y.feud(0, 9, true), false);
        D.due("so already", y.feud(9, 0, true), false);
        D.due("none of 10", y.feud(10, 0, true), false);
    }

    private static void priceBounds() {
        D.part("PRICES of 0 .. 99, KITCHEN 1 .. 4; Promise 25, false: no such ones");
        KinMeet x = new KinMeet();
        for (int w = 0; w < 3; w++) {
            for (int n : new int[] {-1, 100, Integer.MIN_VALUE, Integer.MAX_VALUE}) {
                D.due("price(" + w + ", " + n + ")", x.price(w, n), false);
            }
            D.due("the least", x.price(w, 0), true);
            D.due("the most", x.price(w, 99), true);
            D.due("the same once more", x.price(w, 99), true);
        }
        for (int n : new int[] {-1, 0, 5, 6, 99, Integer.MIN_VALUE, Integer.MAX_VALUE}) {
            D.due("price(3, " + n + ")", x.price(KITCHEN, n), false);
        }
        D.due("the least", x.price(KITCHEN, 1), true);
        D.due("the most", x.price(KITCHEN, 4), true);
        for (int w : new int[] {-1, 4, 5, Integer.MIN_VALUE, Integer.MAX_VALUE}) {
            for (int n = 0; n < 5; n++) {
                D.due("price(" + w + ", " + n + ")", x.price(w, n), false);
            }
        }
    }

    private static void pricesAtFirst() {
        D.part("PRICES: 3 at first, 5, 1; KITCHEN: 2 at first");
        KinMeet x = inRooms(2, 2);
        snore(x, 0);
        D.due("a snore", x.bed(), 3);
        x.price(0, 0);
        D.due("for 0", x.bed(), 0);
        x.note(1, 0, 1, 0);
        feuds(x, of(0, 1));
        x.room(1);
        D.due("a COUPLE apart, one moved", x.bed(), 6);
        D.due("a COUPLE apart", x.bed(), 5);
        x.price(1, 0);
        D.due("for 0", x.bed(), 0);
        KinMeet y = atTables(2, 2);
        diets(y, 0, 1);
        meal(y, 1, 0, 0);
        KinMeet z = atTables(3, 3);
        diets(z, 0, 1, 2);
        meal(z, -1);
        // refused ones leave them as they are
        KinMeet w = inRooms(2, 2);
        snore(w, 1);
        w.price(0, 100);
        w.price(0, -1);
        D.due("a snore", w.bed(), 3);
    }

    private static void bedWithoutAMeeting() {
        D.part("Promise 26, NONE: no MEETING is on");
        KinMeet x = withKin(2);
        x.room(5);
        D.due("none was", x.bed(), -1);
        meet(x);
        D.due("one is on", x.bed(), 0);
        x.end();
        D.due("none is on", x.bed(), -1);
    }

    private static void bedOfNoGuests() {
        D.part("A BEDDING of no GUESTS");
        KinMeet x = meeting(0);
        D.due("no ROOMS", x.bed(), 0);
        x.room(1);
        D.due("a ROOM", x.bed(), 0);
        x.kin(0, 0, 0, 0, false);
        D.due("one who is no GUEST", x.bed(), 0);
        D.due("bedded", x.bedded(0), -1);
        KinMeet y = inRooms(1, 1);
        bed(y, 0, 0);
        y.guest(0, false);
        D.due("who left", y.bed(), 0);
        D.due("has no ROOM by it", y.bedded(0), -1);
    }

    private static void noMoreThanBeds() {
        D.part("each GUEST in a ROOM, no more than beds");
        KinMeet none = meeting(1);
        D.due("no ROOMS", none.bed(), -1);
        bed(inRooms(1, 1), 0, 0);
        KinMeet x = inRooms(5, 1, 2);
        D.due("three beds for five", x.bed(), -1);
        x.room(1);
        D.due("four beds for five", x.bed(), -1);
        x.room(1);
        bed(x, 0, 0, 1, 1, 2, 3);
        x.kin(0, 0, 0, 0, false);
        x.guest(5, true);
        D.due("five beds for six", x.bed(), -1);
        KinMeet y = inRooms(10, 5, 4);
        D.due("nine beds for ten", y.bed(), -1);
        y.room(1);
        bed(y, 0, 0, 0, 0, 0, 0, 1, 1, 1, 1, 2);
    }

    private static void noFeudInARoom() {
        D.part("no FEUD within one");
        KinMeet x = inRooms(3, 3);
        feuds(x, of(0, 2));
        D.due("one ROOM", x.bed(), -1);
        x.room(1);
        bed(x, 0, 0, 0, 1);
        // a FEUD with one who is no GUEST doesn't matter
        x.kin(0, 0, 0, 0, false);
        x.feud(3, 0, true);
        bed(x, 0, 0, 0, 1);
        KinMeet y = inRooms(4, 5, 5, 5);
        feuds(y, of(0, 1), of(0, 2), of(0, 3), of(1, 2), of(1, 3), of(2, 3));
        D.due("four, three ROOMS", y.bed(), -1);
        y.room(1);
        // 0 to 2 alone in the least ROOMS by bits
        bed(y, 0, 0, 1, 2, 3);
        KinMeet z = inRooms(5, 5, 5, 5, 5);
        feuds(z, of(0, 1), of(0, 2), of(0, 3), of(1, 2), of(1, 3), of(2, 3), of(4, 0), of(4, 1), of(4, 2), of(4, 3));
        D.due("five, four ROOMS", z.bed(), -1);
        z.feud(4, 1, false);
        // 2 alone (4 as bits) and 3 alone (8) go ahead of 1 and 4 (18)
        bed(z, 0, 0, 3, 1, 2, 3);
    }

    private static void snoresEachSuchTwo() {
        D.part("of one who snores and one who doesn't in one ROOM, each such two");
        int[] due = {0, 4, 6, 6, 4, 0};
        for (int n = 0; n <= 5; n++) {
            KinMeet x = inRooms(5, 5);
            for (int k = 0; k < n; k++) {
                snore(x, k);
            }
            D.due(n + " of five snore", x.bed(), 3 * due[n]);
        }
        KinMeet y = inRooms(2, 1, 1);
        snore(y, 0);
        bed(y, 0, 0, 1);
        KinMeet z = inRooms(4, 2, 2);
        snore(z, 1, 2);
        bed(z, 0, 1, 0, 0, 1);
        KinMeet w = inRooms(3, 3);
        snore(w, 0);
        w.guest(0, false);
        D.due("one who snores is no GUEST", w.bed(), 0);
    }

    private static void coupleInUnlikeRooms() {
        D.part("a COUPLE of GUESTS in unlike ROOMS: 5");
        KinMeet x = inRooms(2, 1, 1);
        D.due("no COUPLE", x.bed(), 0);
        x.note(1, 0, 1, 0);
        D.due("a COUPLE", x.bed(), 5);
        x.note(2, 0, 1, 0);
        D.due("PARTED", x.bed(), 0);
        // one of two COUPLES: two of the three are together
        KinMeet y = inRooms(3, 1, 2);
        y.note(1, 0, 1, 0);
        y.note(1, 2, 1, 0);
        bed(y, 5, 0, 1, 1);
        y.note(1, 0, 2, 0);
        bed(y, 10, 0, 1, 1);
        KinMeet z = inRooms(3, 3);
        z.note(1, 0, 1, 0);
        z.note(1, 1, 2, 0);
        bed(z, 0, 0, 0, 0);
        KinMeet w = inRooms(2, 2, 2);
        w.note(1, 0, 1, 0);
        bed(w, 0, 1, 1);
    }

    private static void coupleOfGuests() {
        D.part("a COUPLE of GUESTS: both are");
        KinMeet x = inRooms(3, 1, 1);
        x.note(1, 0, 1, 0);
        x.note(1, 1, 2, 0);
        x.note(1, 0, 2, 0);
        x.guest(1, false);
        D.due("0 and 2 alone", x.bed(), 5);
        x.guest(2, false);
        D.due("0 alone", x.bed(), 0);
        x.guest(0, false);
        D.due("none", x.bed(), 0);
    }

    private static void coupleInTheYear() {
        D.part("a COUPLE: in THE YEAR");
        KinMeet x = withKin(2);
        x.years(9);
        meet(x);
        x.room(1);
        x.room(1);
        x.note(1, 0, 1, 10);
        D.due("a YEAR behind", x.bed(), 0);
        x.note(1, 0, 1, 9);
        D.due("of THE YEAR", x.bed(), 5);
        x.strike(1);
        D.due("struck", x.bed(), 0);
        x.note(1, 0, 1, 8);
        x.note(2, 0, 1, 9);
        D.due("PARTED in THE YEAR", x.bed(), 0);
    }

    private static void movedByTheBeddingAtHand() {
        D.part("a GUEST who was in another ROOM by the BEDDING at hand: 1");
        KinMeet x = inRooms(3, 3);
        bed(x, 0, 0, 0, 0);
        bed(x, 0, 0, 0, 0);
        x.room(3);
        feuds(x, of(0, 1));
        bed(x, 1, 0, 1, 0);
        bed(x, 0, 0, 1, 0);
        feuds(x, of(0, 2));
        bed(x, 1, 0, 1, 1);
        x.feud(0, 1, false);
        x.feud(0, 2, false);
        // nobody has to move
        bed(x, 0, 0, 1, 1);
        // one who comes was nowhere
        x.kin(0, 0, 0, 0, false);
        x.guest(3, true);
        bed(x, 0, 0, 1, 1, 1);
        KinMeet y = inRooms(2, 2, 1);
        y.price(2, 99);
        D.due("bed", y.bed(), 0);
        bedded(y, 0, 1);
        feuds(y, of(0, 1));
        bed(y, 0, 0, 1);
        // both change places by a COUPLE that isn't there: none does
        y.price(2, 0);
        bed(y, 0, 0, 1);
    }

    private static void movedOfThisMeeting() {
        D.part("the BEDDING at hand (of this MEETING)");
        KinMeet x = inRooms(2, 2, 2);
        x.price(2, 50);
        bed(x, 0, 1, 1);
        feuds(x, of(0, 1));
        bed(x, 50, 0, 1);
        x.end();
        bedded(x, -1, -1);
        meet(x);
        bedded(x, -1, -1);
        x.feud(0, 1, false);
        bed(x, 0, 1, 1);
    }

    private static void theOneAtHandStays() {
        D.part("Promise 26, NONE: or it can't be (the one at hand stays)");
        KinMeet x = inRooms(2, 2);
        bed(x, 0, 0, 0);
        feuds(x, of(0, 1));
        bed(x, -1, 0, 0);
        x.feud(0, 1, false);
        x.kin(0, 0, 0, 0, false);
        x.guest(2, true);
        bed(x, -1, 0, 0, -1);
        x.room(5);
        x.price(2, 7);
        // who stays pays nothing, so that the one at hand is still asked
        bed(x, 0, 0, 0, 1);
    }

    private static void bedsAndMealsEachForItself() {
        D.part("(the one at hand stays), whatever MEALS there were");
        KinMeet x = inRooms(4, 2, 2);
        x.table(4);
        x.table(3);
        bed(x, 0, 0, 0, 1, 1);
        meal(x, 6, 0, 0, 0, 0);
        bedded(x, 0, 0, 1, 1);
        feuds(x, of(0, 1), of(0, 2), of(0, 3));
        bed(x, -1, 0, 0, 1, 1);
        meal(x, 0, 0, 1, 1, 1);
        bed(x, -1, 0, 0, 1, 1);
        x.room(1);
        // 0 or 1 moves; 0 (1 as bits) stays
        bed(x, 1, 0, 2, 1, 1);
        feuds(x, of(1, 2));
        meal(x, -1);
        bedded(x, 0, 2, 1, 1);
        D.due("the MEALS stay", x.seated(0, 3), 0);
        D.due("the MEALS stay", x.seated(1, 3), 1);
    }

    private static void bedThatCostsLeast() {
        D.part("To BED: the one that costs least");
        // a snore (3) against a COUPLE apart (5)
        KinMeet x = inRooms(2, 2, 2);
        x.note(1, 0, 1, 0);
        snore(x, 0);
        bed(x, 3, 1, 1);
        x.price(0, 6);
        // apart is 5 and 1 to move; together is 6: of both the first by bits, that is none in ROOM 0
        bed(x, 6, 1, 1);
        x.price(0, 7);
        bed(x, 6, 0, 1);
        x.price(0, 6);
        // now apart is 5 alone
        bed(x, 5, 0, 1);
        x.price(0, 4);
        // together is 4 and 1 to move; apart 5: the first by bits
        bed(x, 5, 1, 1);
        bed(x, 4, 1, 1);
    }

    private static void bedTheFirstOfSeveral() {
        D.part("of several the first by the GUESTS of ROOM 0 (as bits, the least number), then of ROOM 1, and so on");
        bed(inRooms(1, 5, 5, 5, 5), 0, 3);
        bed(inRooms(2, 2, 2), 0, 1, 1);
        bed(inRooms(3, 2, 2), 0, 0, 1, 1);
        bed(inRooms(4, 2, 2), 0, 0, 0, 1, 1);
        bed(inRooms(4, 3, 2), 0, 0, 0, 1, 1);
        bed(inRooms(4, 3, 1), 0, 0, 0, 0, 1);
        bed(inRooms(4, 1, 3), 0, 0, 1, 1, 1);
        bed(inRooms(5, 2, 2, 2), 0, 0, 1, 1, 2, 2);
        bed(inRooms(4, 2, 2, 2), 0, 1, 1, 2, 2);
        bed(inRooms(6, 2, 2, 1, 1), 0, 0, 0, 1, 1, 2, 3);
        // 3 (1 and 2 as bits) goes ahead of 4, and 8 ahead of 9
        KinMeet x = inRooms(4, 2, 2);
        feuds(x, of(0, 1), of(0, 2));
        bed(x, 0, 1, 0, 0, 1);
        KinMeet y = inRooms(4, 1, 3);
        feuds(y, of(3, 0), of(3, 1), of(3, 2));
        bed(y, 0, 1, 1, 1, 0);
    }

    private static void bedOfTenGuests() {
        D.part("A BEDDING of ten in four ROOMS");
        bed(inRooms(10, 5, 5, 5, 5), 0, 2, 2, 2, 2, 2, 3, 3, 3, 3, 3);
        bed(inRooms(10, 5, 5), 0, 0, 0, 0, 0, 0, 1, 1, 1, 1, 1);
        bed(inRooms(10, 1, 2, 3, 4), 0, 0, 1, 1, 2, 2, 2, 3, 3, 3, 3);
        bed(inRooms(10, 4, 3, 2, 1), 0, 0, 0, 0, 0, 1, 1, 1, 2, 2, 3);
        bed(inRooms(10, 3, 3, 3, 3), 0, 0, 1, 1, 1, 2, 2, 2, 3, 3, 3);
        D.due("no room for one", inRooms(10, 3, 3, 3).bed(), -1);
        D.due("no room for six", inRooms(10, 1, 1, 1, 1).bed(), -1);
    }

    private static void bedAtTheGreatestPrices() {
        D.part("PRICES of 99 for all there is");
        KinMeet x = withKin(10);
        for (int a = 0; a < 10; a++) {
            for (int b = 0; b < a; b++) {
                x.note(1, a, b, 0);
            }
        }
        snore(x, 0, 2, 4, 6, 8);
        meet(x);
        x.room(5);
        x.room(5);
        x.price(0, 0);
        x.price(1, 99);
        x.price(2, 99);
        D.due("25 COUPLES apart", x.bed(), 25 * 99);
        bedded(x, 0, 0, 0, 0, 0, 1, 1, 1, 1, 1);
        x.price(0, 99);
        // by snores: 3 and 2 with 2 and 3 are 12 such twos; four to move bring these to none
        D.due("four move", x.bed(), 25 * 99 + 4 * 99);
        bedded(x, 0, 1, 0, 1, 0, 1, 0, 1, 0, 1);
        KinMeet y = inRooms(10, 5, 5);
        y.price(0, 99);
        snore(y, 0, 1, 2, 3);
        // four who snore have one more with them
        D.due("four such twos", y.bed(), 4 * 99);
        bedded(y, 0, 0, 0, 0, 0, 1, 1, 1, 1, 1);
    }

    private static void beddedNone() {
        D.part("Promise 27: The ROOM of one by the BEDDING at hand; NONE");
        KinMeet x = inRooms(2, 2);
        x.kin(0, 0, 0, 0, false);
        bedded(x, -1, -1, -1);
        D.due("bed", x.bed(), 0);
        bedded(x, 0, 0, -1);
        for (int k : new int[] {-1, 3, 10, 31, 32, Integer.MIN_VALUE, Integer.MAX_VALUE}) {
            D.due("kin " + k, x.bedded(k), -1);
        }
        x.guest(2, true);
        D.due("not by the one at hand", x.bedded(2), -1);
        x.end();
        bedded(x, -1, -1, -1);
    }

    private static void tablesAtMostThree() {
        D.part("TABLES, at most 3; Promise 28, NONE: or there are 3");
        KinMeet x = meeting(7);
        for (int i = 0; i < 3; i++) {
            meal(x, -1);
            D.due("table", x.table(2), i);
        }
        D.due("the fourth", x.table(2), -1);
        D.due("the fourth", x.table(6), -1);
        meal(x, -1);
        x.guest(6, false);
        meal(x, 3, 0, 0, 1, 1, 2, 2);
        x.end();
        D.due("TABLES stay", x.table(2), -1);
    }

    private static void tableOfSeats() {
        D.part("TABLES of 2 .. 6 seats; Promise 28, NONE: no such seats");
        KinMeet x = new KinMeet();
        for (int s : new int[] {-1, 0, 1, 7, 8, Integer.MIN_VALUE, Integer.MAX_VALUE}) {
            D.due(s + " seats", x.table(s), -1);
        }
        D.due("the least", x.table(2), 0);
        D.due("the most", x.table(6), 1);
        for (int s = 2; s <= 6; s++) {
            KinMeet fits = atTables(s, s);
            meal(fits, s * (s - 1) / 2);
            fits.kin(0, 0, 0, 0, false);
            fits.guest(s, true);
            meal(fits, -1);
        }
    }

    private static void mealWithoutAMeeting() {
        D.part("Promise 29, NONE: no MEETING is on");
        KinMeet x = withKin(2);
        x.table(2);
        D.due("none was", x.meal(), -1);
        meet(x);
        D.due("one is on", x.meal(), 1);
        x.end();
        D.due("none is on", x.meal(), -1);
        D.due("count(6)", x.count(6), 0);
    }

    private static void mealOfNoGuests() {
        D.part("A MEAL of no GUESTS, of one");
        KinMeet x = meeting(0);
        meal(x, 0);
        x.table(2);
        meal(x, 0);
        KinMeet y = atTables(1, 2);
        meal(y, 0, 0);
        y.guest(0, false);
        meal(y, 0, -1);
        D.due("no TABLES for one", meeting(1).meal(), -1);
    }

    private static void mealsAtMostEight() {
        D.part("A MEAL (at most 8 in a MEETING); Promise 29: or there were 8");
        KinMeet x = atTables(2, 2);
        for (int m = 0; m < 8; m++) {
            meal(x, m == 0 ? 1 : 0, 0, 0);
        }
        D.due("the ninth", x.meal(), -1);
        D.due("eight", x.count(6), 8);
        D.due("the ninth", x.meal(), -1);
        D.due("the eighth", x.seated(7, 0), 0);
        D.due("no ninth", x.seated(8, 0), -1);
        x.end();
        meet(x);
        for (int m = 0; m < 8; m++) {
            meal(x, m == 0 ? 1 : 0, 0, 0);
        }
        D.due("the ninth of the next MEETING", x.meal(), -1);
        // one that can't be is none of the eight
        KinMeet y = atTables(3, 2);
        for (int i = 0; i < 9; i++) {
            meal(y, -1);
        }
        y.table(2);
        meal(y, 1);
    }

    private static void noMoreThanSeats() {
        D.part("each GUEST at a TABLE, no more than seats");
        meal(atTables(2, 2), 1, 0, 0);
        meal(atTables(3, 2), -1);
        meal(atTables(4, 2, 2), 2, 0, 0, 1, 1);
        meal(atTables(5, 2, 2), -1);
        meal(atTables(5, 2, 3), 4, 0, 0, 1, 1, 1);
        meal(atTables(6, 2, 2, 2), 3, 0, 0, 1, 1, 2, 2);
        meal(atTables(7, 2, 2, 2), -1);
        meal(atTables(10, 6, 3), -1);
        meal(atTables(10, 6, 4), 15 + 6, 0, 0, 0, 0, 0, 0, 1, 1, 1, 1);
    }

    private static void noFeudAtATable() {
        D.part("no FEUD at one");
        KinMeet x = atTables(2, 2);
        feuds(x, of(0, 1));
        meal(x, -1);
        x.table(2);
        meal(x, 0, 0, 1);
        x.feud(0, 1, false);
        meal(x, 1, 1, 1);
        KinMeet y = atTables(4, 6, 6, 6);
        feuds(y, of(0, 1), of(0, 2), of(1, 2));
        // 3 with one of them
        meal(y, 1, 0, 1, 2, 2);
        feuds(y, of(3, 0), of(3, 1), of(3, 2));
        meal(y, -1);
    }

    private static void dietsAsKitchenSays() {
        D.part("at most so many unlike DIETS at one as KITCHEN says (1 .. 4; 2 at first)");
        for (int kitchen = 1; kitchen <= 4; kitchen++) {
            for (int diets = 1; diets <= 4; diets++) {
                KinMeet x = atTables(4, 4);
                diets(x, 0, diets > 1 ? 1 : 0, diets > 2 ? 2 : 0, diets > 3 ? 3 : 0);
                x.price(KITCHEN, kitchen);
                meal(x, diets <= kitchen ? 6 : -1);
            }
        }
        KinMeet y = atTables(4, 4);
        diets(y, 3, 3, 1, 1);
        meal(y, 6);
        diets(y, 3, 3, 1, 0);
        meal(y, -1);
        y.table(4);
        // neither 0 nor 1 alone leaves two DIETS for the others
        meal(y, 0, 0, 0, 1, 1);
        KinMeet z = atTables(4, 2, 2, 2);
        diets(z, 0, 1, 2, 3);
        z.price(KITCHEN, 1);
        meal(z, -1);
        z.guest(3, false);
        meal(z, 0, 0, 1, 2);
        z.price(KITCHEN, 2);
        meal(z, 1, 1, 2, 2);
    }

    private static void twosOfAnEarlierMeal() {
        D.part("as many twos as can be sit at one TABLE that did not in an earlier MEAL");
        KinMeet x = atTables(4, 2, 2);
        meal(x, 2, 0, 0, 1, 1);
        meal(x, 2, 0, 1, 0, 1);
        meal(x, 2, 1, 0, 0, 1);
        meal(x, 0, 0, 0, 1, 1);
        KinMeet y = atTables(3, 3);
        meal(y, 3, 0, 0, 0);
        meal(y, 0, 0, 0, 0);
        y.kin(0, 0, 0, 0, false);
        y.guest(3, true);
        y.table(3);
        meal(y, 2, 0, 1, 1, 1);
        meal(y, 1, 1, 0, 1, 1);
        meal(y, 0, 0, 1, 1, 1);
    }

    private static void twosOfThisMeeting() {
        D.part("an earlier MEAL of this MEETING");
        KinMeet x = atTables(2, 2);
        meal(x, 1, 0, 0);
        meal(x, 0, 0, 0);
        x.end();
        meet(x);
        D.due("no MEALS", x.count(6), 0);
        D.due("gone", x.seated(0, 0), -1);
        meal(x, 1, 0, 0);
        // who left and came back did sit
        x.guest(1, false);
        meal(x, 0, 0, -1);
        x.guest(1, true);
        meal(x, 0, 0, 0);
    }

    private static void mealThatCannotBe() {
        D.part("Promise 29, NONE: it can't be");
        KinMeet x = atTables(3, 3);
        meal(x, 3, 0, 0, 0);
        feuds(x, of(0, 1));
        meal(x, -1);
        D.due("no second MEAL", x.seated(1, 0), -1);
        D.due("the first stays", x.seated(0, 1), 0);
        x.feud(0, 1, false);
        meal(x, 0, 0, 0, 0);
    }

    private static void mealTheFirstOfSeveral() {
        D.part("of several the first by TABLES as with ROOMS");
        meal(atTables(2, 2, 2), 1, 1, 1);
        meal(atTables(2, 6, 6, 6), 1, 2, 2);
        meal(atTables(3, 2, 2), 1, 0, 1, 1);
        meal(atTables(4, 3, 3), 3, 0, 1, 1, 1);
        meal(atTables(4, 2, 3), 3, 0, 1, 1, 1);
        meal(atTables(4, 3, 2), 3, 0, 0, 0, 1);
        meal(atTables(5, 2, 2, 2), 2, 0, 1, 1, 2, 2);
        meal(atTables(6, 4, 4), 7, 0, 0, 1, 1, 1, 1);
    }

    private static void mealOfTenGuests() {
        D.part("A MEAL of ten at three TABLES");
        meal(atTables(10, 6, 6, 6), 21, 1, 1, 1, 1, 2, 2, 2, 2, 2, 2);
        meal(atTables(10, 4, 4, 2), 13, 0, 0, 0, 0, 1, 1, 1, 1, 2, 2);
        meal(atTables(10, 4, 3, 3), 12, 0, 0, 0, 0, 1, 1, 1, 2, 2, 2);
        meal(atTables(10, 6, 2, 2), 17, 0, 0, 0, 0, 0, 0, 1, 1, 2, 2);
        meal(atTables(10, 5, 2, 2), -1);
    }

    private static void seatedNone() {
        D.part("Promise 30: The TABLE of one at a MEAL (from 0 on); NONE");
        KinMeet x = atTables(2, 2);
        x.kin(0, 0, 0, 0, false);
        D.due("no MEAL yet", x.seated(0, 0), -1);
        meal(x, 1, 0, 0, -1);
        for (int m : new int[] {-1, 1, 7, 8, Integer.MIN_VALUE, Integer.MAX_VALUE}) {
            D.due("MEAL " + m, x.seated(m, 0), -1);
        }
        for (int k : new int[] {-1, 3, 10, 31, 32, Integer.MIN_VALUE, Integer.MAX_VALUE}) {
            D.due("kin " + k, x.seated(0, k), -1);
        }
        x.guest(1, false);
        x.guest(2, true);
        meal(x, 1, 0, -1, 0);
        D.due("at the first", x.seated(0, 1), 0);
        D.due("at the first", x.seated(0, 2), -1);
        x.end();
        D.due("gone", x.seated(0, 0), -1);
        meet(x);
        D.due("gone", x.seated(0, 0), -1);
    }
}
