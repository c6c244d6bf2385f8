/** Edges of ==== 1 and of promises 1 and 5 to 11: a test for each sentence that names one, under the sentence's own words. */
public final class EdgeBookTest {
    private static final Due D = new Due();
    private static final int[] FAR = {Integer.MIN_VALUE, -2, -1, 1000, Integer.MAX_VALUE};
    private static final int SNORES = 4;

    public static void main(String[] args) {
        anObjectIsUsedForCalls();
        aNewObject();
        kinAtMostTen();
        kinNumbersThatCannotBe();
        snoresOrNotAndDiet();
        refusedKinChangesNothing();
        changeBounds();
        changeOfNoSuchKin();
        refusedChangeChangesNothing();
        changeShowsFromThenOn();
        notesAtMostHundred();
        strikesAreNotes();
        parentLesserThanChild();
        parentSureOrMaybe();
        coupleOfTwoUnlike();
        noteYears();
        bornDiedOtherOneNotLookedAt();
        noSuchSort();
        noSuchKinOfNotes();
        refusedNoteChangesNothing();
        strikeBounds();
        knownByTheFirstNotes();
        knownByFewerBehindMore();
        struckByOneOfThese();
        strikeOfStrikes();
        sureParentsTheFirstTwo();
        sureParentsEachOnce();
        maybeThatIsSure();
        maybeOfAThirdSureOne();
        maybesEachOnce();
        maybesTheFirstSix();
        worldsOfTwoParents();
        theEmptySetIsAWorld();
        aboveItself();
        aboveByManySteps();
        nearLeastTogether();
        nearLeastUp();
        nearHowMany();
        nearWithoutMaybes();
        nearNone();
        nearRefused();
        aliveBorn();
        aliveDied();
        aliveWithoutNotes();
        aliveByTheLatestNote();
        ageFromZero();
        coupleFromItsYear();
        coupleEitherWay();
        coupleGreatestYear();
        coupleOfLikeYearsTheLatest();
        coupleByNotesOfItsSorts();
        coupleNone();
        toldRefused();
        toldNotLookedAt();
        yearsBounds();
        yearsToTheLast();
        yearsInAMeeting();
        theWholeBookInTheYear();
        D.end();
    }

    private static KinMeet withKin(int n) {
        KinMeet x = new KinMeet();
        for (int i = 0; i < n; i++) {
            x.kin(0, 0, 0, 0, false);
        }
        return x;
    }

    /** Parents for sure (c 0) or maybe (c 1) of each a and b. */
    private static void parents(KinMeet x, int c, int[]... pairs) {
        for (int[] p : pairs) {
            x.note(0, p[0], p[1], c);
        }
    }

    private static int[] of(int a, int b) {
        return new int[] {a, b};
    }

    private static void near(KinMeet x, int a, int b, int... due) {
        for (int w = 0; w < due.length; w++) {
            D.due("near(all, " + a + ", " + b + ", " + w + ")", x.near(x.count(1), a, b, w), due[w]);
        }
    }

    private static boolean alive(KinMeet x, int k, int year) {
        return x.told(x.count(1), year, k, -7, 0) == 1;
    }

    private static int age(KinMeet x, int k, int year) {
        return x.told(x.count(1), year, k, -7, 1);
    }

    private static boolean couple(KinMeet x, int a, int b, int year) {
        return x.told(x.count(1), year, a, b, 2) == 1;
    }

    private static int sures(KinMeet x, int k) {
        return x.told(x.count(1), 0, k, 0, 3);
    }

    /** Some kin, notes and a year, for calls that are refused. */
    private static KinMeet someBook() {
        KinMeet x = new KinMeet();
        x.kin(1, 2, 30, 1, true);
        x.kin(5, 3, 99, 3, false);
        x.kin(0, 0, 0, 0, false);
        x.years(10);
        x.note(0, 2, 1, 0);
        x.note(0, 2, 0, 1);
        x.note(1, 0, 1, 4);
        x.note(3, 2, 0, 3);
        x.note(4, 1, 0, 900);
        x.strike(2);
        return x;
    }

    private static void anObjectIsUsedForCalls() {
        D.part("An object is used for at most 512 calls");
        KinMeet x = withKin(2);
        x.note(0, 1, 0, 0);
        for (int i = 4; i <= 510; i++) {
            D.due("call " + i, x.near(1, 1, 0, i % 2), 1 - i % 2);
        }
        D.due("call 511", x.count(0), 2);
        D.due("call 512", x.near(1, 1, 0, 4), 1);
    }

    private static void aNewObject() {
        D.part("Promise 1: No KIN, NOTES, RULES, nothing; THE YEAR 0; an empty TAPE");
        KinMeet x = new KinMeet();
        int[] counts = {0, 0, 0, 0, 0, -1, 0, -1, 0, 0};
        for (int w = 0; w < counts.length; w++) {
            D.due("count(" + w + ")", x.count(w), counts[w]);
        }
        D.due("fault(0)", x.fault(0), 0);
        D.due("fault(1)", x.fault(1), -1);
        D.due("rules(1)", x.rules(1), -2);
        D.due("rules(0)", x.rules(0), 0);
        D.due("change(0, 0, 0)", x.change(0, 0, 0), false);
        D.due("strike(0)", x.strike(0), -1);
        D.due("near(0, 0, 0, 3)", x.near(0, 0, 0, 3), -2);
        D.due("told(0, 0, 0, 0, 0)", x.told(0, 0, 0, 0, 0), -2);
        D.due("regret(0, 0, 0)", x.regret(0, 0, 0), false);
        D.due("travel(0, 0)", x.travel(0, 0), -1);
        D.due("score(0)", x.score(0), Long.MIN_VALUE);
        D.due("judged(0, 0)", x.judged(0, 0), -1);
        D.due("choice()", x.choice(), -1);
        D.due("ring()", x.ring(), 0);
        D.due("meet(0)", x.meet(0), -1);
        D.due("meet(NONE)", x.meet(-1), -1);
        D.due("guest(0, true)", x.guest(0, true), false);
        D.due("feud(0, 1, true)", x.feud(0, 1, true), false);
        D.due("bed()", x.bed(), -1);
        D.due("bedded(0)", x.bedded(0), -1);
        D.due("meal()", x.meal(), -1);
        D.due("seated(0, 0)", x.seated(0, 0), -1);
        D.due("receipt(0, 1)", x.receipt(0, 1), -1);
        D.due("owes(0, 0)", x.owes(0, 0), Long.MIN_VALUE);
        D.due("settle()", x.settle(), -1);
        D.due("payment(0, 0)", x.payment(0, 0), -1);
        D.due("host()", x.host(), -1);
        D.due("end()", x.end(), -2);
        for (int b = 0; b < 4; b++) {
            D.due("times of " + b, x.branch(b, 0), 0);
            D.due("last of " + b, x.branch(b, 1), -1);
            D.due("people of " + b, x.branch(b, 2), 0);
        }
        D.due("the first of the KIN", x.kin(0, 0, 0, 0, false), 0);
        D.due("the first NOTE", x.note(3, 0, 0, 0), 0);
        D.due("the first OPTION", x.option(0, 1), 0);
        D.due("the first FLIGHT", x.flight(0, 1, 1, 1, 0), 0);
        D.due("the first ROOM", x.room(1), 0);
        D.due("the first TABLE", x.table(2), 0);
        D.due("the first bytes", x.feed(0, 0, 0, 0, 0), 20);
    }

    private static void kinAtMostTen() {
        D.part("KIN, at most 10, numbered from 0 on");
        KinMeet x = new KinMeet();
        for (int i = 0; i < 10; i++) {
            D.due("before", x.count(0), i);
            D.due("kin", x.kin(0, 0, 0, 0, false), i);
        }
        D.due("the eleventh", x.kin(0, 0, 0, 0, false), -1);
        D.due("the eleventh, who snores", x.kin(5, 3, 99, 3, true), -1);
        D.due("ten", x.count(0), 10);
        D.due("the tenth is there", x.told(0, 0, 9, 0, 0), 1);
        D.due("no eleventh", x.told(0, 0, 10, 0, 0), -2);
        D.due("people", x.branch(0, 2), 10);
    }

    private static void kinNumbersThatCannotBe() {
        D.part("Promise 5, it can't be: HOME 0 .. 5, BRANCH 0 .. 3, MEANS 0 .. 99, DIET 0 .. 3");
        KinMeet x = new KinMeet();
        int[] most = {5, 3, 99, 3};
        for (int t = 0; t < 4; t++) {
            for (int v : new int[] {-1, most[t] + 1, Integer.MIN_VALUE, Integer.MAX_VALUE}) {
                int[] n = new int[4];
                n[t] = v;
                D.due("kin with " + v + " for " + t, x.kin(n[0], n[1], n[2], n[3], false), -1);
            }
        }
        D.due("none yet", x.count(0), 0);
        for (int t = 0; t < 4; t++) {
            int[] n = new int[4];
            n[t] = most[t];
            D.due("the most of " + t, x.kin(n[0], n[1], n[2], n[3], true), t);
        }
        D.due("the least of all", x.kin(0, 0, 0, 0, false), 4);
        x.option(0, 1);
        Due.rules(x, "score sum(home)*1000+max(branch)*100+max(means);");
        D.due("as told", x.score(0), 5399);
    }

    private static void snoresOrNotAndDiet() {
        D.part("Promise 5: a DIET 0 .. 3, and snores or not");
        for (int d = 0; d < 4; d++) {
            for (int e = 0; e < 4; e++) {
                KinMeet x = new KinMeet();
                x.kin(0, 0, 0, d, d % 2 == 0);
                x.kin(0, 0, 0, e, e % 2 == 0);
                x.option(0, 1);
                x.regret(0, 0, 0);
                x.regret(1, 0, 0);
                x.meet(0);
                x.room(2);
                x.table(2);
                x.price(3, 1);
                D.due("one who snores and one who doesn't", x.bed(), d % 2 == e % 2 ? 0 : 3);
                D.due("one DIET", x.meal(), d == e ? 1 : -1);
                D.due("told anew", x.change(0, SNORES, 1 - e % 2), true);
                D.due("both snore, or neither does", x.bed(), 0);
                D.due("told anew", x.change(0, 3, e), true);
                D.due("one DIET", x.meal(), d == e ? 0 : 1);
            }
        }
    }

    private static void refusedKinChangesNothing() {
        D.part("Promise 5, NONE");
        Look.unchanged(D, "kin", EdgeBookTest::someBook, x -> {
            x.kin(6, 0, 0, 0, true);
            x.kin(0, 4, 0, 0, true);
            x.kin(0, 0, 100, 0, true);
            x.kin(0, 0, 0, 4, true);
            x.kin(-1, -1, -1, -1, true);
        });
    }

    private static void changeBounds() {
        D.part("Promise 6, what 0 .. 4, v; false for others");
        KinMeet x = withKin(1);
        int[] most = {5, 3, 99, 3, 1};
        for (int w = 0; w < most.length; w++) {
            D.due("the most of " + w, x.change(0, w, most[w]), true);
            D.due("the least of " + w, x.change(0, w, 0), true);
            D.due("the same once more of " + w, x.change(0, w, 0), true);
            for (int v : new int[] {-1, most[w] + 1, Integer.MIN_VALUE, Integer.MAX_VALUE}) {
                D.due(v + " of " + w, x.change(0, w, v), false);
            }
        }
        for (int w : new int[] {-1, 5, 6, Integer.MIN_VALUE, Integer.MAX_VALUE}) {
            D.due("what " + w, x.change(0, w, 0), false);
        }
    }

    private static void changeOfNoSuchKin() {
        D.part("Promise 6, one of KIN");
        KinMeet x = withKin(2);
        for (int w = 0; w < 5; w++) {
            D.due("the last one", x.change(1, w, 1), true);
            D.due("the first that isn't", x.change(2, w, 1), false);
            D.due("-1", x.change(-1, w, 1), false);
            D.due("10", x.change(10, w, 1), false);
            D.due("least", x.change(Integer.MIN_VALUE, w, 1), false);
        }
        x.kin(0, 0, 0, 0, false);
        x.option(0, 1);
        Due.rules(x, "score sum(home+branch+means);");
        D.due("the later one is as told", x.score(0), 3);
    }

    private static void refusedChangeChangesNothing() {
        D.part("Promise 6, false");
        Look.unchanged(D, "change", EdgeBookTest::someBook, x -> {
            int[] most = {5, 3, 99, 3, 1};
            for (int w = 0; w < 5; w++) {
                x.change(0, w, most[w] + 1);
                x.change(1, w, -1);
                x.change(3, w, 0);
                x.change(-1, w, 0);
            }
            x.change(0, 5, 0);
            x.change(0, -1, 0);
        });
    }

    private static void changeShowsFromThenOn() {
        D.part("these can be told anew, and are so from then on");
        KinMeet x = withKin(2);
        x.option(3, 5);
        x.regret(0, 0, 0);
        x.regret(1, 0, 0);
        D.due("nobody is there", x.travel(0, 0), 0);
        x.change(0, 0, 3);
        D.due("HOME", x.travel(0, 0), 1);
        x.change(0, 1, 2);
        D.due("BRANCH", x.branch(2, 2), 1);
        D.due("the old BRANCH", x.branch(0, 2), 1);
        x.meet(0);
        x.change(0, 2, 7);
        D.due("MEANS, in a MEETING too", x.owes(0, 0), 7);
        x.room(2);
        x.change(0, SNORES, 1);
        D.due("snores", x.bed(), 3);
        x.change(0, SNORES, 0);
        D.due("snores no more", x.bed(), 0);
        x.table(2);
        x.price(3, 1);
        x.change(0, 3, 3);
        D.due("DIET", x.meal(), -1);
        x.change(1, 3, 3);
        D.due("DIET of the other", x.meal(), 1);
    }

    private static void notesAtMostHundred() {
        D.part("NOTES, at most 100, numbered from 0 on");
        KinMeet x = withKin(2);
        for (int i = 0; i < 99; i++) {
            D.due("note", x.note(3, 0, 0, i), i);
        }
        D.due("the hundredth", x.note(4, 1, 0, 7), 99);
        for (int s = 0; s < 5; s++) {
            D.due("the 101st of sort " + s, x.note(s, 1, 0, 0), -1);
        }
        D.due("the 101st, a STRIKE", x.strike(0), -1);
        D.due("a hundred", x.count(1), 100);
        D.due("known by 100", x.told(100, 7, 1, 0, 0), 0);
        D.due("known by 99", x.told(99, 7, 1, 0, 0), 1);
        D.due("the 99th is the latest", x.told(100, 98, 0, 0, 1), 0);
        D.due("101 aren't there", x.told(101, 7, 1, 0, 0), -2);
        D.due("101 aren't there", x.near(101, 1, 0, 0), -2);
    }

    private static void strikesAreNotes() {
        D.part("To STRIKE a NOTE is a NOTE, too; NONE: or there are 100");
        KinMeet x = withKin(1);
        x.note(3, 0, 0, 5);
        for (int i = 1; i < 100; i++) {
            D.due("strike", x.strike(i - 1), i);
            D.due("count(1)", x.count(1), i + 1);
        }
        D.due("the 101st", x.strike(99), -1);
        D.due("a note", x.note(3, 0, 0, 5), -1);
        D.due("a hundred", x.count(1), 100);
        D.due("ninety-nine STRIKES, one by the other: the first counts", x.told(100, 9, 0, 0, 1), -1);
        D.due("but not as known by 99", x.told(99, 9, 0, 0, 1), 4);
    }

    private static void parentLesserThanChild() {
        D.part("0 PARENT: b is a parent of a (b lesser than a)");
        KinMeet x = withKin(3);
        for (int c = 0; c < 2; c++) {
            D.due("b = a", x.note(0, 1, 1, c), -1);
            D.due("b = a of 0", x.note(0, 0, 0, c), -1);
            D.due("b = a + 1", x.note(0, 1, 2, c), -1);
            D.due("b = a + 2", x.note(0, 0, 2, c), -1);
            D.due("b below 0", x.note(0, 1, -1, c), -1);
        }
        D.due("b = a - 1", x.note(0, 1, 0, 0), 0);
        D.due("b = a - 1", x.note(0, 2, 1, 1), 1);
        D.due("b = a - 2", x.note(0, 2, 0, 0), 2);
    }

    private static void parentSureOrMaybe() {
        D.part("c 0 for sure, 1 maybe");
        KinMeet x = withKin(2);
        for (int c : new int[] {-1, 2, 999, Integer.MIN_VALUE, Integer.MAX_VALUE}) {
            D.due("c " + c, x.note(0, 1, 0, c), -1);
        }
        D.due("1", x.note(0, 1, 0, 1), 0);
        D.due("maybe", sures(x, 1), 0);
        D.due("0", x.note(0, 1, 0, 0), 1);
        D.due("for sure", sures(x, 1), 1);
    }

    private static void coupleOfTwoUnlike() {
        D.part("of sorts 0, 1, 2 two unlike ones");
        KinMeet x = withKin(3);
        for (int s = 1; s < 3; s++) {
            for (int k = 0; k < 3; k++) {
                D.due("one and the same", x.note(s, k, k, 5), -1);
            }
        }
        D.due("a lesser", x.note(1, 0, 2, 5), 0);
        D.due("b lesser", x.note(1, 2, 1, 5), 1);
        D.due("a lesser", x.note(2, 1, 2, 5), 2);
        D.due("b lesser", x.note(2, 2, 0, 5), 3);
    }

    private static void noteYears() {
        D.part("YEARS 0 .. 999");
        KinMeet x = withKin(2);
        for (int s = 1; s < 5; s++) {
            for (int c : new int[] {-1, 1000, Integer.MIN_VALUE, Integer.MAX_VALUE}) {
                D.due("sort " + s + ", YEAR " + c, x.note(s, 1, 0, c), -1);
            }
        }
        D.due("none yet", x.count(1), 0);
        for (int s = 1; s < 5; s++) {
            D.due("sort " + s + ", YEAR 0", x.note(s, 1, 0, 0), 2 * s - 2);
            D.due("sort " + s + ", YEAR 999", x.note(s, 1, 0, 999), 2 * s - 1);
        }
    }

    private static void bornDiedOtherOneNotLookedAt() {
        D.part("of 3, 4 b isn't looked at");
        KinMeet x = withKin(2);
        int n = 0;
        for (int b : new int[] {1, 2, -1, 10, Integer.MIN_VALUE, Integer.MAX_VALUE}) {
            D.due("born, b " + b, x.note(3, 1, b, 5), n++);
            D.due("died, b " + b, x.note(4, 1, b, 6), n++);
        }
        D.due("of a", age(x, 1, 5), 0);
        D.due("not of b", age(x, 0, 5), -1);
        D.due("not of b", alive(x, 0, 6), true);
    }

    private static void noSuchSort() {
        D.part("Promise 7, no such sort");
        KinMeet x = withKin(3);
        for (int s : new int[] {-1, 5, 6, Integer.MIN_VALUE, Integer.MAX_VALUE}) {
            D.due("sort " + s, x.note(s, 1, 0, 0), -1);
            D.due("sort " + s, x.note(s, 1, 0, 1), -1);
        }
        D.due("none", x.count(1), 0);
        for (int s = 0; s < 5; s++) {
            D.due("sort " + s, x.note(s, 1, 0, 0), s);
        }
    }

    private static void noSuchKinOfNotes() {
        D.part("Promise 7, no such KIN");
        KinMeet none = new KinMeet();
        for (int s = 0; s < 5; s++) {
            D.due("no KIN at all, sort " + s, none.note(s, 1, 0, 0), -1);
            D.due("no KIN at all, sort " + s, none.note(s, 0, 0, 0), -1);
        }
        KinMeet x = withKin(3);
        for (int s = 0; s < 5; s++) {
            for (int a : new int[] {-1, 3, 10, Integer.MIN_VALUE, Integer.MAX_VALUE}) {
                D.due("a " + a + " of sort " + s, x.note(s, a, 1, 0), -1);
            }
        }
        for (int s = 0; s < 3; s++) {
            for (int b : new int[] {-1, 3, 10, Integer.MIN_VALUE, Integer.MAX_VALUE}) {
                D.due("b " + b + " of sort " + s, x.note(s, 1, b, 0), -1);
            }
        }
        D.due("none", x.count(1), 0);
        for (int s = 0; s < 3; s++) {
            D.due("the last one and the first one", x.note(s, 2, 0, 0), s);
        }
    }

    private static void refusedNoteChangesNothing() {
        D.part("Promises 7 and 8, NONE");
        Look.unchanged(D, "note", EdgeBookTest::someBook, x -> {
            x.note(-1, 1, 0, 0);
            x.note(5, 1, 0, 0);
            x.note(0, 1, 1, 0);
            x.note(0, 1, 2, 0);
            x.note(0, 2, 0, 2);
            x.note(0, 3, 0, 0);
            x.note(1, 2, 2, 0);
            x.note(1, 0, 2, 1000);
            x.note(2, 0, 3, 0);
            x.note(3, 3, 0, 0);
            x.note(3, 0, 0, 1000);
            x.note(4, 0, 0, -1);
            x.strike(6);
            x.strike(-1);
        });
        Look.unchanged(D, "the 101st", () -> {
            KinMeet x = someBook();
            for (int i = x.count(1); i < 100; i++) {
                x.note(3, 0, 0, 1);
            }
            return x;
        }, x -> {
            x.note(4, 0, 0, 0);
            x.note(0, 1, 0, 0);
            x.strike(0);
        });
    }

    private static void strikeBounds() {
        D.part("Promise 8, NONE: no such one");
        KinMeet x = withKin(2);
        D.due("no NOTES", x.strike(0), -1);
        x.note(0, 1, 0, 0);
        x.note(3, 0, 0, 0);
        for (int n : FAR) {
            D.due("strike(" + n + ")", x.strike(n), -1);
        }
        D.due("the first that isn't: its own number", x.strike(2), -1);
        D.due("the last one", x.strike(1), 2);
        D.due("a STRIKE, now it is the last one", x.strike(2), 3);
        D.due("the first one", x.strike(0), 4);
        D.due("the first one once more", x.strike(0), 5);
        D.due("no such one", x.strike(6), -1);
    }

    private static void knownByTheFirstNotes() {
        D.part("As KNOWN by n: the first n NOTES alone");
        KinMeet x = withKin(3);
        x.note(0, 2, 0, 0);
        x.note(0, 2, 1, 0);
        x.note(3, 2, 0, 5);
        int[] sure = {0, 1, 2, 2};
        for (int n = 0; n <= 3; n++) {
            D.due("parents known by " + n, x.told(n, 0, 2, 0, 3), sure[n]);
            D.due("alive known by " + n, x.told(n, 4, 2, 0, 0), n < 3 ? 1 : 0);
            D.due("near known by " + n, x.near(n, 2, 1, 0), n < 2 ? -1 : 1);
        }
        for (int n : new int[] {-1, 4, Integer.MIN_VALUE, Integer.MAX_VALUE}) {
            D.due("told, n " + n, x.told(n, 0, 2, 0, 3), -2);
            D.due("near, n " + n, x.near(n, 2, 1, 0), -2);
        }
        // asked of fewer notes in between, the whole book is asked again
        x.told(0, 0, 2, 0, 0);
        D.due("of all then", x.branch(0, 2), 2);
    }

    /** Each kind of note is the first one that isn't known, asked behind the whole book. */
    private static void knownByFewerBehindMore() {
        D.part("As KNOWN by n: the first n NOTES alone, whatever was asked before");
        KinMeet x = withKin(4);
        x.note(0, 3, 0, 0);
        x.note(0, 3, 1, 1);
        x.note(3, 3, 0, 5);
        x.note(4, 3, 0, 9);
        x.note(1, 3, 2, 6);
        x.note(2, 3, 2, 7);
        x.strike(0);
        x.strike(6);
        int[][] due = {{0, 1, 1, -1, 1, 0, 0}, {1, 1, 1, -1, 1, 0, 0}, {1, 2, 1, -1, 1, 0, 0}, {1, 2, 0, 4, 1, 0, 0}, {1, 2, 0, 4, 0, 0, 0},
            {1, 2, 0, 4, 0, 1, 1}, {1, 2, 0, 4, 0, 1, 0}, {0, 2, 0, 4, 0, 1, 0}, {1, 2, 0, 4, 0, 1, 0}};
        for (int more = 8; more >= 0; more--) {
            for (int n = more; n >= 0; n--) {
                x.near(more, 3, 0, 3);
                D.due("SURE parents known by " + n, x.told(n, 0, 3, 0, 3), due[n][0]);
                D.due("WORLDS known by " + n, x.near(n, 3, 1, 3), due[n][1]);
                if (more == 8) {
                    D.due("alive in 4 known by " + n, x.told(n, 4, 3, 0, 0), due[n][2]);
                    D.due("AGE in 9 known by " + n, x.told(n, 9, 3, 0, 1), due[n][3]);
                    D.due("alive in 9 known by " + n, x.told(n, 9, 3, 0, 0), due[n][4]);
                    D.due("COUPLE in 6 known by " + n, x.told(n, 6, 3, 2, 2), due[n][5]);
                    D.due("COUPLE in 7 known by " + n, x.told(n, 7, 3, 2, 2), due[n][6]);
                }
            }
        }
    }

    private static void struckByOneOfThese() {
        D.part("without those STRUCK by one of these");
        KinMeet x = withKin(2);
        x.note(0, 1, 0, 0);
        x.note(4, 0, 0, 3);
        x.strike(0);
        x.strike(1);
        D.due("the STRIKE isn't known yet", x.told(2, 0, 1, 0, 3), 1);
        D.due("now it is", x.told(3, 0, 1, 0, 3), 0);
        D.due("the other isn't", x.told(3, 3, 0, 0, 0), 0);
        D.due("now both are", x.told(4, 3, 0, 0, 0), 1);
        D.due("of the first two", x.near(2, 1, 0, 2), 1);
        D.due("of the first three", x.near(3, 1, 0, 2), 0);
    }

    private static void strikeOfStrikes() {
        D.part("a STRIKE may be STRUCK: then it doesn't count; asked from the last one on");
        KinMeet x = withKin(2);
        x.note(0, 1, 0, 0);
        for (int i = 0; i < 20; i++) {
            x.strike(i);
        }
        for (int n = 1; n <= 21; n++) {
            // the first STRIKE counts if the chain behind it is even
            D.due("known by " + n, x.told(n, 0, 1, 0, 3), n % 2);
        }
        // 0 is struck by 1 and by 3; 2 strikes 1, 4 strikes 2
        KinMeet y = withKin(2);
        y.note(0, 1, 0, 0);
        y.strike(0);
        y.strike(1);
        D.due("1 is struck", sures(y, 1), 1);
        y.strike(0);
        D.due("3 counts", sures(y, 1), 0);
        y.strike(2);
        D.due("both count", sures(y, 1), 0);
        y.strike(3);
        D.due("1 still counts", sures(y, 1), 0);
        y.strike(1);
        D.due("none counts", sures(y, 1), 1);
    }

    private static void sureParentsTheFirstTwo() {
        D.part("SURE parents: in order, the first two");
        KinMeet x = withKin(5);
        D.due("none", sures(x, 4), 0);
        for (int b = 3; b >= 0; b--) {
            x.note(0, 4, b, 0);
            D.due("parents", sures(x, 4), Math.min(2, 4 - b));
        }
        near(x, 4, 3, 1, 0, 1);
        near(x, 4, 2, 1, 0, 1);
        near(x, 4, 1, -1, -1, 0);
        near(x, 4, 0, -1, -1, 0);
        x.strike(1);
        D.due("still two", sures(x, 4), 2);
        near(x, 4, 2, -1, -1, 0);
        near(x, 4, 1, 1, 0, 1);
        near(x, 4, 0, -1, -1, 0);
        x.strike(0);
        near(x, 4, 0, 1, 0, 1);
        x.strike(2);
        D.due("one is left", sures(x, 4), 1);
        x.strike(3);
        D.due("none is left", sures(x, 4), 0);
    }

    private static void sureParentsEachOnce() {
        D.part("SURE parents: each once");
        KinMeet x = withKin(4);
        parents(x, 0, of(3, 1), of(3, 1), of(3, 1), of(3, 0));
        D.due("two", sures(x, 3), 2);
        near(x, 3, 0, 1, 0, 1);
        parents(x, 0, of(3, 2));
        near(x, 3, 2, -1, -1, 0);
        x.strike(0);
        near(x, 3, 1, 1, 0, 1);
        near(x, 3, 2, -1, -1, 0);
    }

    private static void maybeThatIsSure() {
        D.part("MAYBES: whose b isn't a SURE parent of a");
        KinMeet x = withKin(3);
        parents(x, 1, of(2, 1));
        near(x, 2, 1, -1, -1, 0, 2, 1, 1);
        parents(x, 0, of(2, 1));
        near(x, 2, 1, 1, 0, 1, 1, 1, 1);
        parents(x, 1, of(2, 1));
        near(x, 2, 1, 1, 0, 1, 1, 1, 1);
        x.strike(1);
        near(x, 2, 1, -1, -1, 0, 2, 1, 1);
    }

    private static void maybeOfAThirdSureOne() {
        D.part("MAYBES: one who is told for sure as the third is no SURE parent");
        KinMeet x = withKin(10);
        parents(x, 0, of(9, 0), of(9, 1), of(9, 2));
        parents(x, 1, of(9, 2));
        near(x, 9, 2, -1, -1, 0, 1, 0, -1);
        // it is one of the six all the same, so that the sixth of the others isn't
        parents(x, 1, of(1, 0), of(2, 0), of(3, 0), of(4, 0), of(5, 0), of(6, 0));
        near(x, 5, 0, -1, -1, 0, 32, 16, 1);
        near(x, 6, 0, -1, -1, 0, 32, 0, -1);
        x.strike(0);
        // 9 has 1 and 2 now: no maybe any more, and the sixth moves up
        near(x, 9, 2, 1, 0, 1, 64, 64, 1);
        near(x, 6, 0, -1, -1, 0, 64, 32, 1);
    }

    private static void maybesEachOnce() {
        D.part("MAYBES: each a and b once (the first)");
        KinMeet x = withKin(8);
        parents(x, 1, of(1, 0), of(1, 0), of(1, 0), of(2, 0), of(2, 1), of(3, 0), of(3, 0), of(4, 0), of(5, 0));
        near(x, 5, 0, -1, -1, 0, 64, 32, 1);
        parents(x, 1, of(6, 0));
        near(x, 6, 0, -1, -1, 0, 64, 0, -1);
        // a and b the other way round isn't the same: 2 of 3 and 2 of 4 are two
        KinMeet y = withKin(5);
        parents(y, 1, of(3, 2), of(4, 2), of(4, 3));
        near(y, 4, 2, -1, -1, 0, 8, 5, 1);
        // the first is struck: the second stands in its place behind the others
        KinMeet z = withKin(8);
        parents(z, 1, of(1, 0), of(2, 0), of(3, 0), of(4, 0), of(5, 0), of(6, 0), of(1, 0));
        near(z, 1, 0, -1, -1, 0, 64, 32, 1);
        z.strike(0);
        near(z, 1, 0, -1, -1, 0, 64, 32, 1);
        parents(z, 1, of(7, 0));
        near(z, 7, 0, -1, -1, 0, 64, 0, -1);
    }

    private static void maybesTheFirstSix() {
        D.part("MAYBES: the first six in the book");
        KinMeet x = withKin(10);
        for (int a = 1; a <= 9; a++) {
            near(x, a, 0, -1, -1, 0, 1 << Math.min(a - 1, 6), 0, -1);
            parents(x, 1, of(a, 0));
            boolean counts = a <= 6;
            near(x, a, 0, -1, -1, 0, 1 << Math.min(a, 6), counts ? 1 << a - 1 : 0, counts ? 1 : -1);
        }
        x.strike(3);
        near(x, 7, 0, -1, -1, 0, 64, 32, 1);
        near(x, 8, 0, -1, -1, 0, 64, 0, -1);
        near(x, 4, 0, -1, -1, 0, 64, 0, -1);
        D.due("as known by 6", x.near(6, 6, 0, 3), 64);
        D.due("as known by 5", x.near(5, 5, 0, 3), 32);
    }

    private static void worldsOfTwoParents() {
        D.part("A WORLD: nobody has more than two parents with the SURE ones");
        int[][] due = {{0, 1, 2}, {0, 2, 4}, {0, 3, 7}, {0, 4, 11}, {0, 5, 16}, {0, 6, 22}, {1, 1, 2}, {1, 2, 3}, {1, 5, 6}, {1, 6, 7}, {2, 1, 1}, {2, 6, 1}};
        for (int[] d : due) {
            KinMeet x = withKin(10);
            for (int i = 0; i < d[0]; i++) {
                parents(x, 0, of(9, i));
            }
            for (int i = 0; i < d[1]; i++) {
                parents(x, 1, of(9, d[0] + i));
            }
            D.due(d[0] + " SURE and " + d[1] + " MAYBES", x.near(x.count(1), 9, 0, 3), d[2]);
            int last = d[0] + d[1] - 1;
            int with = d[0] == 2 ? 0 : d[0] == 1 ? 1 : d[1];
            D.due("with the last one", x.near(x.count(1), 9, last, 4), with);
        }
        // of two children each for itself
        KinMeet y = withKin(6);
        parents(y, 1, of(4, 0), of(4, 1), of(4, 2), of(5, 0), of(5, 1), of(5, 2));
        near(y, 4, 5, -1, -1, 0, 49, 24, 2);
    }

    private static void theEmptySetIsAWorld() {
        D.part("The empty set is one");
        KinMeet x = withKin(4);
        D.due("no notes", x.near(0, 0, 1, 3), 1);
        near(x, 1, 1, 0, 0, 1, 1, 1, 0);
        parents(x, 0, of(3, 0), of(3, 1), of(3, 2));
        near(x, 3, 1, 1, 0, 1, 1, 1, 1);
        near(x, 3, 2, -1, -1, 0, 1, 0, -1);
    }

    private static void aboveItself() {
        D.part("one is ABOVE itself by 0 steps");
        KinMeet x = withKin(3);
        parents(x, 0, of(2, 1), of(2, 0), of(1, 0));
        for (int k = 0; k < 3; k++) {
            near(x, k, k, 0, 0, 1, 1, 1, 0);
        }
        near(x, 2, 1, 1, 0, 1);
        near(x, 1, 2, 0, 1, 1);
        // 0 is above 2 by 1 and by 2
        near(x, 2, 0, 1, 0, 1);
    }

    private static void aboveByManySteps() {
        D.part("the parents of those who are ABOVE one by n steps are ABOVE it by n and 1");
        KinMeet x = withKin(10);
        for (int k = 1; k < 10; k++) {
            x.note(0, k, k - 1, 0);
        }
        for (int k = 0; k < 10; k++) {
            near(x, 9, k, 9 - k, 0, 1, 1, 1, 9 - k);
            near(x, k, 9, 0, 9 - k, 1, 1, 1, 9 - k);
        }
        near(x, 4, 8, 0, 4, 1);
        // two lines of four steps each from 0 on
        KinMeet y = withKin(9);
        for (int k = 1; k < 9; k++) {
            y.note(0, k, Math.max(0, k - 2), 0);
        }
        near(y, 7, 8, 4, 4, 1, 1, 1, 8);
        near(y, 8, 7, 4, 4, 1);
    }

    private static void nearLeastTogether() {
        D.part("u and d together least");
        // of 6 and 5: 0 by 1 and 3, 1 by 2 and 1
        KinMeet x = withKin(7);
        parents(x, 0, of(6, 0), of(6, 3), of(3, 1), of(5, 1), of(5, 4), of(4, 2), of(2, 0));
        near(x, 6, 5, 2, 1, 1, 1, 1, 3);
        near(x, 5, 6, 1, 2, 1, 1, 1, 3);
        // the same with the numbers the other way round: a lesser u alone doesn't count
        KinMeet z = withKin(7);
        parents(z, 0, of(6, 1), of(6, 3), of(3, 0), of(5, 0), of(5, 4), of(4, 2), of(2, 1));
        near(z, 6, 5, 2, 1, 1, 1, 1, 3);
        near(z, 5, 6, 1, 2, 1, 1, 1, 3);
        // one of the two above the other goes ahead of parents they have in common
        KinMeet y = withKin(3);
        parents(y, 0, of(2, 1), of(2, 0), of(1, 0));
        near(y, 2, 1, 1, 0, 1);
    }

    private static void nearLeastUp() {
        D.part("of several u least");
        // of 5 and 4: 0 by 1 and 2, 1 by 2 and 1
        KinMeet x = withKin(6);
        parents(x, 0, of(5, 0), of(5, 2), of(2, 1), of(4, 1), of(4, 3), of(3, 0));
        near(x, 5, 4, 1, 2, 1);
        near(x, 4, 5, 1, 2, 1);
        // the same, found in the other order
        KinMeet y = withKin(6);
        parents(y, 0, of(5, 1), of(5, 2), of(2, 0), of(4, 0), of(4, 3), of(3, 1));
        near(y, 5, 4, 1, 2, 1);
        near(y, 4, 5, 1, 2, 1);
    }

    private static void nearHowMany() {
        D.part("what 2: how many x there are with just these");
        KinMeet x = withKin(8);
        parents(x, 0, of(2, 0), of(2, 1), of(3, 0), of(3, 1));
        near(x, 2, 3, 1, 1, 2);
        // grandparents in common, four at most
        KinMeet y = withKin(10);
        parents(y, 0, of(4, 0), of(4, 1), of(5, 2), of(5, 3), of(6, 0), of(6, 1), of(7, 2), of(7, 3), of(8, 4), of(8, 5), of(9, 6), of(9, 7));
        near(y, 8, 9, 2, 2, 4);
        // those by the same u and a greater d, or by a greater u and the same d, aren't just these
        KinMeet w = withKin(6);
        parents(w, 0, of(5, 0), of(5, 1), of(4, 0), of(4, 3), of(3, 1));
        near(w, 5, 4, 1, 1, 1);
        near(w, 4, 5, 1, 1, 1);
        // those by the same sum, but with another u, aren't just these
        KinMeet z = withKin(7);
        parents(z, 0, of(6, 0), of(6, 3), of(3, 1), of(5, 1), of(5, 4), of(4, 0));
        near(z, 6, 5, 1, 2, 1);
    }

    private static void nearWithoutMaybes() {
        D.part("NEAR is told of the WORLD without MAYBES");
        KinMeet x = withKin(4);
        parents(x, 1, of(2, 0), of(3, 0));
        near(x, 2, 3, -1, -1, 0, 4, 1, 2);
        parents(x, 0, of(1, 0), of(2, 1), of(3, 1));
        near(x, 2, 3, 1, 1, 1, 4, 4, 2);
        // a nearer one in some WORLD
        parents(x, 1, of(3, 2));
        near(x, 2, 3, 1, 1, 1, 6, 6, 1);
    }

    private static void nearNone() {
        D.part("NONE: there is none (what 0, 1, 5; of 2 it is 0)");
        KinMeet x = withKin(2);
        near(x, 0, 1, -1, -1, 0, 1, 0, -1);
        near(x, 1, 0, -1, -1, 0, 1, 0, -1);
        x.note(0, 1, 0, 1);
        near(x, 1, 0, -1, -1, 0, 2, 1, 1);
        x.note(0, 1, 0, 0);
        near(x, 1, 0, 1, 0, 1, 1, 1, 1);
    }

    private static void nearRefused() {
        D.part("Promise 9, -2: no such n, KIN, what");
        KinMeet x = withKin(2);
        x.note(0, 1, 0, 0);
        for (int w = 0; w < 6; w++) {
            for (int k : new int[] {-1, 2, 10, Integer.MIN_VALUE, Integer.MAX_VALUE}) {
                D.due("a " + k, x.near(1, k, 0, w), -2);
                D.due("b " + k, x.near(1, 0, k, w), -2);
            }
            for (int n : new int[] {-1, 2, Integer.MIN_VALUE, Integer.MAX_VALUE}) {
                D.due("n " + n, x.near(n, 1, 0, w), -2);
            }
            D.due("none is refused", x.near(1, 1, 0, w) >= 0, true);
            D.due("none is refused", x.near(0, 1, 1, w) >= 0, true);
        }
        for (int w : new int[] {-1, 6, Integer.MIN_VALUE, Integer.MAX_VALUE}) {
            D.due("what " + w, x.near(1, 1, 0, w), -2);
        }
        KinMeet none = new KinMeet();
        D.due("no KIN", none.near(0, 0, 0, 0), -2);
    }

    private static void aliveBorn() {
        D.part("ALIVE unless the latest BORN note tells a YEAR behind y");
        KinMeet x = withKin(2);
        x.note(3, 0, 0, 1);
        D.due("the YEAR ahead", alive(x, 0, 0), false);
        D.due("in that YEAR", alive(x, 0, 1), true);
        D.due("the YEAR behind", alive(x, 0, 2), true);
        D.due("the other", alive(x, 1, 0), true);
        x.note(3, 1, 0, 0);
        D.due("born in 0", alive(x, 1, 0), true);
        x.note(3, 1, 0, 999);
        D.due("born in 999", alive(x, 1, 998), false);
        D.due("born in 999", alive(x, 1, 999), true);
    }

    private static void aliveDied() {
        D.part("ALIVE unless the latest DIED note tells y or a YEAR ahead");
        KinMeet x = withKin(2);
        x.note(4, 0, 0, 1);
        D.due("the YEAR ahead", alive(x, 0, 0), true);
        D.due("in that YEAR", alive(x, 0, 1), false);
        D.due("the YEAR behind", alive(x, 0, 2), false);
        D.due("the other", alive(x, 1, 1), true);
        x.note(4, 1, 0, 0);
        D.due("died in 0", alive(x, 1, 0), false);
        x.note(4, 1, 0, 999);
        D.due("died in 999", alive(x, 1, 998), true);
        D.due("died in 999", alive(x, 1, 999), false);
        // born and died in one YEAR: never alive
        x.note(3, 0, 0, 5);
        x.note(4, 0, 0, 5);
        for (int y = 4; y < 7; y++) {
            D.due("in " + y, alive(x, 0, y), false);
        }
        x.note(4, 0, 0, 6);
        D.due("one YEAR", alive(x, 0, 5), true);
        D.due("no more", alive(x, 0, 6), false);
    }

    private static void aliveWithoutNotes() {
        D.part("ALIVE without notes of its own");
        KinMeet x = withKin(2);
        x.note(0, 1, 0, 0);
        x.note(1, 0, 1, 5);
        D.due("in 0", alive(x, 0, 0), true);
        D.due("in 999", alive(x, 1, 999), true);
        D.due("known by none", x.told(0, 999, 1, 0, 0), 1);
    }

    private static void aliveByTheLatestNote() {
        D.part("the latest BORN, DIED note that COUNTS");
        KinMeet x = withKin(1);
        x.note(3, 0, 0, 50);
        x.note(3, 0, 0, 10);
        D.due("the latest in the book, a lesser YEAR", alive(x, 0, 10), true);
        D.due("its AGE", age(x, 0, 10), 0);
        x.strike(1);
        D.due("struck: the one before", alive(x, 0, 49), false);
        D.due("its AGE", age(x, 0, 50), 0);
        x.strike(0);
        D.due("none", alive(x, 0, 0), true);
        D.due("no AGE", age(x, 0, 99), -1);
        x.note(4, 0, 0, 20);
        x.note(4, 0, 0, 30);
        D.due("the latest in the book, a greater YEAR", alive(x, 0, 29), true);
        D.due("the latest", alive(x, 0, 30), false);
        x.note(4, 0, 0, 25);
        D.due("the latest, a lesser YEAR", alive(x, 0, 25), false);
        x.strike(x.count(1) - 1);
        D.due("struck: the one before", alive(x, 0, 29), true);
    }

    private static void ageFromZero() {
        D.part("AGE: y less the YEAR of that BORN note, if it is 0 or more; else -1");
        KinMeet x = withKin(2);
        D.due("without a note", age(x, 0, 999), -1);
        x.note(3, 0, 0, 5);
        int[][] due = {{0, -1}, {4, -1}, {5, 0}, {6, 1}, {999, 994}};
        for (int[] d : due) {
            D.due("in " + d[0], age(x, 0, d[0]), d[1]);
        }
        x.note(4, 0, 0, 7);
        D.due("it goes on, ALIVE or not", age(x, 0, 9), 4);
        x.note(3, 1, 0, 0);
        D.due("0 to 0", age(x, 1, 0), 0);
        D.due("0 to 999", age(x, 1, 999), 999);
    }

    private static void coupleFromItsYear() {
        D.part("COUPLE: that tell a YEAR of y at most");
        KinMeet x = withKin(2);
        x.note(1, 0, 1, 5);
        D.due("the YEAR ahead", couple(x, 0, 1, 4), false);
        D.due("in that YEAR", couple(x, 0, 1, 5), true);
        D.due("the last YEAR", couple(x, 0, 1, 999), true);
        x.note(2, 0, 1, 7);
        D.due("the YEAR ahead", couple(x, 0, 1, 6), true);
        D.due("in that YEAR", couple(x, 0, 1, 7), false);
        x.note(1, 0, 1, 999);
        D.due("the YEAR ahead", couple(x, 0, 1, 998), false);
        D.due("in the last YEAR", couple(x, 0, 1, 999), true);
        x.note(1, 0, 1, 0);
        D.due("from 0 on", couple(x, 0, 1, 0), true);
        D.due("whether ALIVE or not", x.note(4, 0, 0, 0) > 0 && couple(x, 0, 1, 6), true);
    }

    private static void coupleEitherWay() {
        D.part("a and b either way");
        KinMeet x = withKin(3);
        x.note(1, 2, 0, 3);
        D.due("as told", couple(x, 2, 0, 3), true);
        D.due("the other way", couple(x, 0, 2, 3), true);
        D.due("another one", couple(x, 0, 1, 3), false);
        D.due("another one", couple(x, 2, 1, 3), false);
        x.note(2, 0, 2, 4);
        D.due("parted the other way", couple(x, 2, 0, 4), false);
        D.due("parted the other way", couple(x, 0, 2, 4), false);
    }

    private static void coupleGreatestYear() {
        D.part("the one with the greatest YEAR");
        KinMeet x = withKin(2);
        x.note(1, 0, 1, 20);
        x.note(2, 0, 1, 10);
        D.due("parted ahead of it", couple(x, 0, 1, 15), false);
        D.due("then one", couple(x, 0, 1, 20), true);
        x.note(2, 0, 1, 19);
        D.due("the YEAR before doesn't count then", couple(x, 0, 1, 20), true);
        x.note(2, 0, 1, 21);
        D.due("the greatest", couple(x, 0, 1, 21), false);
        x.strike(3);
        D.due("struck", couple(x, 0, 1, 21), true);
    }

    private static void coupleOfLikeYearsTheLatest() {
        D.part("of like ones the latest");
        KinMeet x = withKin(2);
        x.note(1, 0, 1, 20);
        x.note(2, 1, 0, 20);
        D.due("parted", couple(x, 0, 1, 20), false);
        x.note(1, 1, 0, 20);
        D.due("one", couple(x, 0, 1, 20), true);
        x.strike(2);
        D.due("parted", couple(x, 0, 1, 20), false);
        x.strike(1);
        D.due("one", couple(x, 0, 1, 20), true);
        x.strike(0);
        D.due("no notes of theirs", couple(x, 0, 1, 20), false);
    }

    private static void coupleByNotesOfItsSorts() {
        D.part("a COUPLE: if of their notes of sorts 1, 2");
        KinMeet x = withKin(3);
        x.note(1, 1, 0, 0);
        x.note(0, 1, 0, 0);
        x.note(0, 1, 0, 1);
        x.note(3, 1, 0, 5);
        x.note(4, 0, 1, 6);
        x.strike(1);
        for (int y : new int[] {0, 1, 5, 6, 999}) {
            D.due("one in " + y, couple(x, 0, 1, y), true);
            D.due("one in " + y, couple(x, 1, 0, y), true);
        }
        KinMeet z = withKin(3);
        z.note(2, 1, 0, 0);
        z.note(0, 1, 0, 1);
        z.note(3, 1, 0, 1);
        z.strike(1);
        D.due("none", couple(z, 1, 0, 9), false);
    }

    private static void coupleNone() {
        D.part("what 2: 0 if they are one and the same; and without notes");
        KinMeet x = withKin(2);
        D.due("without notes", couple(x, 0, 1, 999), false);
        x.note(1, 0, 1, 0);
        D.due("one and the same", x.told(1, 5, 0, 0, 2), 0);
        D.due("one and the same", x.told(1, 5, 1, 1, 2), 0);
        x.note(2, 0, 1, 0);
        D.due("parted alone", couple(x, 0, 1, 0), false);
    }

    private static void toldRefused() {
        D.part("Promise 10, -2: no such n, KIN, YEAR, what");
        KinMeet x = withKin(2);
        x.note(3, 0, 0, 0);
        for (int w = 0; w < 4; w++) {
            for (int k : new int[] {-1, 2, 10, Integer.MIN_VALUE, Integer.MAX_VALUE}) {
                D.due("a " + k + ", what " + w, x.told(1, 0, k, 0, w), -2);
            }
            for (int n : new int[] {-1, 2, Integer.MIN_VALUE, Integer.MAX_VALUE}) {
                D.due("n " + n + ", what " + w, x.told(n, 0, 0, 1, w), -2);
            }
            for (int y : new int[] {-1, 1000, Integer.MIN_VALUE, Integer.MAX_VALUE}) {
                D.due("YEAR " + y + ", what " + w, x.told(1, y, 0, 1, w), w == 3 ? 0 : -2);
            }
            D.due("YEAR 0", x.told(1, 0, 0, 1, w) >= 0, true);
            D.due("YEAR 999", x.told(1, 999, 0, 1, w) >= 0, true);
            D.due("the last one of KIN", x.told(1, 0, 1, 0, w) >= -1, true);
            D.due("known by none", x.told(0, 0, 1, 0, w) >= -1, true);
        }
        for (int w : new int[] {-1, 4, Integer.MIN_VALUE, Integer.MAX_VALUE}) {
            D.due("what " + w, x.told(1, 0, 0, 1, w), -2);
        }
    }

    private static void toldNotLookedAt() {
        D.part("Promise 10: b isn't looked at else; what 3: the YEAR isn't looked at");
        KinMeet x = withKin(2);
        x.note(3, 0, 0, 3);
        x.note(0, 1, 0, 0);
        for (int b : new int[] {-1, 2, 10, Integer.MIN_VALUE, Integer.MAX_VALUE}) {
            D.due("alive, b " + b, x.told(2, 3, 0, b, 0), 1);
            D.due("AGE, b " + b, x.told(2, 5, 0, b, 1), 2);
            D.due("a COUPLE, b " + b, x.told(2, 5, 0, b, 2), -2);
            D.due("parents, b " + b, x.told(2, 5, 1, b, 3), 1);
            D.due("parents, YEAR " + b, x.told(2, b, 1, 0, 3), 1);
            D.due("parents, both", x.told(2, b, 1, b, 3), 1);
        }
    }

    private static void yearsBounds() {
        D.part("Promise 11, 0 .. 99: no such number");
        KinMeet x = withKin(1);
        D.due("0", x.years(0), 0);
        for (int n : new int[] {-1, 100, 101, 999, Integer.MIN_VALUE, Integer.MAX_VALUE}) {
            D.due("years(" + n + ")", x.years(n), -1);
            D.due("nothing happens", x.count(2), 0);
        }
        D.due("1", x.years(1), 1);
        D.due("99", x.years(99), 100);
        D.due("count(2)", x.count(2), 100);
    }

    private static void yearsToTheLast() {
        D.part("Promise 11, beyond 999");
        KinMeet x = withKin(1);
        for (int i = 0; i < 9; i++) {
            x.years(99);
        }
        D.due("891", x.years(0), 891);
        x.years(99);
        D.due("to 1000", x.years(10), -1);
        D.due("nothing happens", x.count(2), 990);
        D.due("to 1089", x.years(99), -1);
        D.due("nothing happens", x.years(0), 990);
        D.due("to 999", x.years(9), 999);
        D.due("to 1000", x.years(1), -1);
        D.due("none go by", x.years(0), 999);
        D.due("below", x.years(-1), -1);
        D.due("THE YEAR", x.count(2), 999);
        x.note(4, 0, 0, 999);
        D.due("nobody is ALIVE in 999", x.branch(0, 2), 0);
        KinMeet y = withKin(1);
        for (int i = 0; i < 10; i++) {
            y.years(99);
        }
        y.years(8);
        D.due("998", y.count(2), 998);
        D.due("to 1000", y.years(2), -1);
        D.due("to 999", y.years(1), 999);
    }

    private static void yearsInAMeeting() {
        D.part("Promise 11, or a MEETING is on");
        KinMeet x = withKin(1);
        x.years(3);
        x.option(0, 1);
        x.meet(0);
        for (int n : new int[] {0, 1, 99}) {
            D.due("in a MEETING", x.years(n), -1);
        }
        D.due("nothing happens", x.count(2), 3);
        x.end();
        D.due("behind it", x.years(0), 3);
        D.due("behind it", x.years(99), 102);
        Look.unchanged(D, "years", () -> {
            KinMeet y = someBook();
            y.option(1, 1);
            y.regret(0, 0, 5);
            y.meet(0);
            return y;
        }, y -> {
            y.years(1);
            y.years(99);
        });
    }

    private static void theWholeBookInTheYear() {
        D.part("All that follows asks the whole book (all NOTES) in THE YEAR; KIN that are ALIVE then alone");
        KinMeet x = withKin(3);
        x.option(0, 1);
        for (int k = 0; k < 3; k++) {
            x.regret(k, 0, 1 << k);
        }
        x.note(3, 1, 0, 1);
        x.note(4, 2, 0, 2);
        int[] people = {2, 3, 2};
        int[] score = {5, 7, 3};
        for (int y = 0; y < 3; y++) {
            D.due("people in " + y, x.branch(0, 2), people[y]);
            D.due("CAN in " + y, x.travel(0, 2), people[y]);
            D.due("score in " + y, x.score(0), score[y]);
            // what is asked of other years and fewer notes doesn't matter
            x.told(0, 0, 0, 0, 0);
            x.told(1, 999, 1, 2, 2);
            x.near(1, 0, 1, 5);
            D.due("score in " + y, x.score(0), score[y]);
            x.years(1);
        }
        x.strike(1);
        D.due("all NOTES", x.branch(0, 2), 3);
    }
}
