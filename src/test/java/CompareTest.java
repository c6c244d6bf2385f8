import java.util.ArrayList;
import java.util.List;
import java.util.NoSuchElementException;
import java.util.Random;

/** Long runs of calls that a fixed seed picks, each answer held against the Oracle's. */
public final class CompareTest {
    private static final int THROWS_INDEX = 1234567;
    private static final int THROWS_ELEMENT = 1234568;

    private final Random random;
    private final KinMeet real = new KinMeet();
    private final Oracle oracle = new Oracle();
    private final List<String> calls = new ArrayList<>();
    private final int guestsMost;
    private int wrong;

    private CompareTest(long seed) {
        random = new Random(seed);
        guestsMost = seed % 10 == 0 ? 10 : 7;
    }

    public static void main(String[] args) {
        int runs = args.length > 0 ? Integer.parseInt(args[0]) : 400;
        long first = args.length > 1 ? Long.parseLong(args[1]) : 1;
        long calls = 0;
        for (long seed = first; seed < first + runs; seed++) {
            CompareTest test = new CompareTest(seed);
            test.run((int) (seed % 8));
            calls += test.calls.size();
            if (test.wrong > 0) {
                System.out.println("seed " + seed + " went wrong");
                System.exit(1);
            }
        }
        System.out.println(runs + " runs, " + calls + " calls, all alike");
    }

    private int pick(int bound) {
        return random.nextInt(bound);
    }

    private boolean often(int percent) {
        return pick(100) < percent;
    }

    /** A number of 0 .. bound - 1, now and then one just outside, or far away. */
    private int about(int bound) {
        int dice = pick(40);
        if (dice == 0) {
            return -1;
        }
        if (dice == 1) {
            return bound;
        }
        if (dice == 2) {
            return new int[] {Integer.MIN_VALUE, Integer.MAX_VALUE, -2, 1000, 1 << 30}[pick(5)];
        }
        return pick(Math.max(1, bound));
    }

    private int someKin() {
        return about(oracle.people.size());
    }

    private int someOption() {
        return about(oracle.options.size());
    }

    private void same(String call, long got, long want) {
        calls.add(call + " -> " + want);
        if (got != want && wrong < 3) {
            wrong++;
            System.out.println(call + " answered " + got + ", due is " + want + " after");
            calls.stream().skip(Math.max(0, calls.size() - 60)).forEach(c -> System.out.println("   " + c));
        }
    }

    private void same(String call, boolean got, boolean want) {
        same(call, got ? 1 : 0, want ? 1 : 0);
    }

    private void run(int kind) {
        if (kind >= 5) {
            bigRun(kind);
            return;
        }
        int kin = kind == 0 ? 10 : 2 + pick(guestsMost - 1);
        for (int i = 0; i < kin; i++) {
            addKin();
        }
        while (calls.size() < 512 && wrong == 0) {
            switch (kind) {
                case 0:
                    if (often(85)) {
                        bookCall();
                    } else {
                        anyCall();
                    }
                    break;
                case 1:
                    if (often(30)) {
                        tellRules();
                    } else {
                        choiceCall();
                    }
                    break;
                case 2:
                    choiceCall();
                    break;
                default:
                    meetingRound();
                    break;
            }
        }
    }

    /** All of many kin come, so that the searches have much to choose from. */
    private void bigRun(int kind) {
        int kin = 7 + pick(4);
        for (int i = 0; i < kin; i++) {
            int home = pick(6), branch = pick(4), means = pick(4), diet = pick(often(50) ? 2 : 4);
            boolean snores = often(40);
            same("kin", real.kin(home, branch, means, diet, snores), oracle.kin(home, branch, means, diet, snores));
        }
        int options = kind == 5 ? 4 : 1;
        for (int i = 0; i < options; i++) {
            int land = pick(6), day = 20 + pick(11);
            same("option", real.option(land, day), oracle.option(land, day));
            for (int k = 0; k < kin; k++) {
                int n = kind == 5 && often(10) ? 100 : pick(5);
                same("regret", real.regret(k, i, n), oracle.regret(k, i, n));
            }
        }
        if (kind == 5) {
            bigTravel();
        } else if (kind == 6) {
            same("meet(0)", real.meet(0), oracle.meet(0));
            bigHouse(kin);
        } else {
            same("meet(0)", real.meet(0), oracle.meet(0));
            bigMoney(kin);
        }
    }

    private void bigTravel() {
        int flights = 5 + pick(6);
        for (int i = 0; i < flights; i++) {
            int from = pick(6), to = (from + 1 + pick(5)) % 6, day = often(80) ? 1 + pick(20) : 1 + pick(30), seats = 1 + pick(3), price = pick(12);
            same("flight(" + from + ", " + to + ", " + day + ", " + seats + ", " + price + ")",
                    real.flight(from, to, day, seats, price), oracle.flight(from, to, day, seats, price));
            for (int o = 0; o < 4 && i >= 4; o++) {
                same("travel(" + o + ", 0)", real.travel(o, 0), oracle.travel(o, 0));
                same("travel(" + o + ", 1)", real.travel(o, 1), oracle.travel(o, 1));
            }
        }
        same("ring()", real.ring(), oracle.ring());
        same("choice()", real.choice(), oracle.choice());
    }

    private void bigHouse(int kin) {
        int rooms = 2 + pick(3);
        for (int i = 0; i < rooms; i++) {
            int beds = i < 2 ? 3 + pick(3) : 1 + pick(5);
            same("room(" + beds + ")", real.room(beds), oracle.room(beds));
        }
        for (int i = 0; i < 3; i++) {
            int seats = 3 + pick(4);
            same("table(" + seats + ")", real.table(seats), oracle.table(seats));
        }
        for (int i = 0; i < 4; i++) {
            int a = pick(kin), b = pick(kin);
            same("note(1, " + a + ", " + b + ", 0)", real.note(1, a, b, 0), oracle.note(1, a, b, 0));
        }
        if (often(50)) {
            same("price(3, 3)", real.price(3, 3), oracle.price(3, 3));
        }
        for (int i = 0; i < 3; i++) {
            int a = pick(kin), b = pick(kin), w = pick(3), n = pick(8);
            if (often(60)) {
                same("feud(" + a + ", " + b + ", true)", real.feud(a, b, true), oracle.feud(a, b, true));
            }
            bedAll();
            eat();
            same("price(" + w + ", " + n + ")", real.price(w, n), oracle.price(w, n));
            same("guest(" + a + ", false)", real.guest(a, false), oracle.guest(a, false));
            bedAll();
            same("guest(" + a + ", true)", real.guest(a, true), oracle.guest(a, true));
        }
    }

    private void bigMoney(int kin) {
        for (int i = 0; i < 25; i++) {
            int k = pick(kin), sum = 1 + pick(6), what = pick(3);
            same("receipt(" + k + ", " + sum + ")", real.receipt(k, sum), oracle.receipt(k, sum));
            same("owes(" + k + ", " + what + ")", real.owes(k, what), oracle.owes(k, what));
            settleAll();
        }
    }

    private void anyCall() {
        switch (pick(4)) {
            case 0:
                bookCall();
                break;
            case 1:
                tellRules();
                break;
            case 2:
                choiceCall();
                break;
            default:
                meetingCall();
                break;
        }
    }

    private void addKin() {
        int h = about(6), b = about(4), m = about(100), d = about(4);
        boolean s = often(40);
        same("kin(" + h + ", " + b + ", " + m + ", " + d + ", " + s + ")", real.kin(h, b, m, d, s), oracle.kin(h, b, m, d, s));
    }

    private void changeKin() {
        int k = someKin(), w = about(5), v = about(w >= 0 && w < 5 ? new int[] {6, 4, 100, 4, 2}[w] : 3);
        same("change(" + k + ", " + w + ", " + v + ")", real.change(k, w, v), oracle.change(k, w, v));
    }

    private void addNote() {
        int sort = often(60) ? 0 : about(5), a = someKin(), b = someKin();
        int c = sort == 0 ? about(2) : often(80) ? Math.max(0, oracle.year - 3 + pick(7)) : about(1000);
        if (sort == 0 && often(80) && a < b) {
            int t = a;
            a = b;
            b = t;
        }
        same("note(" + sort + ", " + a + ", " + b + ", " + c + ")", real.note(sort, a, b, c), oracle.note(sort, a, b, c));
    }

    private void strike() {
        int n = often(50) ? oracle.notes.size() - 1 - pick(3) : about(oracle.notes.size());
        same("strike(" + n + ")", real.strike(n), oracle.strike(n));
    }

    private void askNear() {
        int n = often(70) ? oracle.notes.size() : about(oracle.notes.size() + 1);
        int a = someKin(), b = someKin(), w = about(6);
        same("near(" + n + ", " + a + ", " + b + ", " + w + ")", real.near(n, a, b, w), oracle.near(n, a, b, w));
    }

    private void askTold() {
        int n = often(70) ? oracle.notes.size() : about(oracle.notes.size() + 1);
        int y = often(70) ? Math.max(0, oracle.year - 4 + pick(9)) : about(1000), a = someKin(), b = someKin(), w = about(4);
        same("told(" + n + ", " + y + ", " + a + ", " + b + ", " + w + ")", real.told(n, y, a, b, w), oracle.told(n, y, a, b, w));
    }

    private void askCount() {
        int w = about(10);
        same("count(" + w + ")", real.count(w), oracle.count(w));
    }

    private void askBranch() {
        int b = about(4), w = about(3);
        long got;
        long want;
        try {
            got = real.branch(b, w);
        } catch (IndexOutOfBoundsException e) {
            got = THROWS_INDEX;
        } catch (NoSuchElementException e) {
            got = THROWS_ELEMENT;
        }
        try {
            want = oracle.branch(b, w);
        } catch (IndexOutOfBoundsException e) {
            want = THROWS_INDEX;
        } catch (NoSuchElementException e) {
            want = THROWS_ELEMENT;
        }
        same("branch(" + b + ", " + w + ")", got, want);
    }

    private void goYears() {
        int n = often(90) ? pick(4) : about(100);
        same("years(" + n + ")", real.years(n), oracle.years(n));
    }

    private void bookCall() {
        switch (pick(12)) {
            case 0: case 1: case 2:
                addNote();
                break;
            case 3:
                strike();
                break;
            case 4: case 5: case 6: case 7:
                askNear();
                break;
            case 8: case 9:
                askTold();
                break;
            case 10:
                goYears();
                break;
            default:
                askBranch();
                break;
        }
    }

    // ---- rules

    private String number() {
        switch (pick(8)) {
            case 0:
                return "" + pick(1000000);
            case 1:
                return "999999";
            case 2:
                return often(20) ? "1000000" : "00" + pick(100);
            default:
                return "" + pick(7);
        }
    }

    private String name(String line, boolean heap) {
        String names = "land day fare come";
        if (line.equals("host")) {
            names = heap ? "times last people home branch age means mine" : "times last people";
        } else if (heap || line.equals("pay")) {
            names = "land day fare come home branch age means can regret miles can regret";
        }
        if (often(2)) {
            names = "land day fare come home branch age means can regret miles times last people mine foo score if";
        }
        String[] all = names.split(" ");
        return all[pick(all.length)];
    }

    private String blank() {
        return often(70) ? "" : often(80) ? " " : "\n";
    }

    private String expression(String line, boolean heap, int depth) {
        int dice = pick(depth <= 0 ? 4 : 16);
        String space = blank();
        switch (dice) {
            case 0: case 1:
                return number();
            case 2: case 3:
                return name(line, heap);
            case 4:
                return "(" + space + expression(line, heap, depth - 1) + ")";
            case 5:
                return "-" + space + expression(line, heap, depth - 1);
            case 6:
                return "not " + expression(line, heap, depth - 1);
            case 7: case 8: case 9:
                if (heap && often(97)) {
                    return expression(line, true, depth - 1);
                }
                String word = new String[] {"sum", "max", "min", "count"}[pick(4)];
                String test = often(50) && (!word.equals("count") || often(3)) ? " if " + expression(line, true, depth - 1) : "";
                return word + space + "(" + expression(line, true, depth - 1) + test + ")";
            case 10:
                return expression(line, heap, depth - 1) + " and " + expression(line, heap, depth - 1);
            case 11:
                return expression(line, heap, depth - 1) + " or " + expression(line, heap, depth - 1);
            default:
                String[] signs = {"+", "-", "*", "/", "%", "<", "<=", "=", "<>", ">", ">="};
                return expression(line, heap, depth - 1) + space + signs[pick(signs.length)] + blank() + expression(line, heap, depth - 1);
        }
    }

    private String text() {
        StringBuilder text = new StringBuilder();
        List<String> words = new ArrayList<>(List.of("score", "bar", "pay", "host"));
        if (often(50)) {
            words.add("bar");
        }
        java.util.Collections.shuffle(words, random);
        int lines = often(3) ? 9 : pick(words.size() + 1);
        for (int i = 0; i < lines; i++) {
            String word = i < words.size() && often(98) ? words.get(i) : new String[] {"bar", "bar", "bar", "score"}[pick(4)];
            String e = expression(word, false, word.equals("bar") ? 2 : 4);
            if (word.equals("bar") && often(70)) {
                e = new String[] {"fare<0", "come < 2", "day%2", "max(regret)>90", "count(not can)>1", "1/(day-3)=0"}[pick(6)];
            }
            text.append(word).append(' ').append(e).append(blank()).append(';').append(blank());
        }
        if (often(6)) {
            text = new StringBuilder("score ");
            int many = 50 + pick(20);
            for (int i = 0; i < many; i++) {
                text.append(pick(10)).append("+-*%<".charAt(pick(often(10) ? 5 : 3)));
            }
            text.append("1;pay means;host sum(mine);bar land;");
        }
        if (often(3)) {
            text = new StringBuilder("bar " + "not ".repeat(110 + pick(15)) + "1;");
        }
        if (often(3)) {
            text = new StringBuilder("bar " + "(".repeat(6 + pick(5)) + "sum(1)" + ")".repeat(6 + pick(5)) + ";");
        }
        if (often(20) && text.length() > 0) {
            int at = pick(text.length());
            String[] junk = {"(", ")", ";", "<", "=", ">", "-", "if", "not ", "!", "1", " ", "a", "\t", "" + (char) 200, "bar ", "sum", "mine", ""};
            text.replace(at, Math.min(text.length(), at + pick(3)), junk[pick(junk.length)]);
        }
        return text.toString();
    }

    private void feed(int[] n) {
        same("feed(" + n[0] + ", " + n[1] + ", " + n[2] + ", " + n[3] + ", " + n[4] + ")",
                real.feed(n[0], n[1], n[2], n[3], n[4]), oracle.feed(n[0], n[1], n[2], n[3], n[4]));
    }

    private void tellRules() {
        String text = text();
        if (text.length() > 600) {
            text = text.substring(0, 600);
        }
        for (int i = 0; i < text.length(); i += 20) {
            int[] n = new int[5];
            for (int j = 0; j < 20; j++) {
                int c = i + j < text.length() ? text.charAt(i + j) : ' ';
                n[j / 4] = n[j / 4] << 8 | c;
            }
            feed(n);
        }
        if (often(2)) {
            for (int i = 0; i < 31; i++) {
                feed(new int[] {pick(100), -pick(1000), pick(1 << 30), random.nextInt(), 0});
            }
        }
        int n = often(90) ? text.length() : about(text.length() + 30);
        same("rules(" + n + ") of " + text, real.rules(n), oracle.rules(n));
        int w = about(2);
        same("fault(0)", real.fault(0), oracle.fault(0));
        same("fault(1)", real.fault(1), oracle.fault(1));
        same("fault(" + w + ")", real.fault(w), oracle.fault(w));
        same("count(9)", real.count(9), oracle.count(9));
    }

    // ---- choices

    private void addOption() {
        int l = about(6), d = about(30);
        same("option(" + l + ", " + d + ")", real.option(l, d), oracle.option(l, d));
        for (int k = 0; k < oracle.people.size(); k++) {
            tellRegret(k, oracle.options.size() - 1);
        }
    }

    private void tellRegret(int k, int o) {
        int n = often(15) ? 100 : often(50) ? pick(4) : about(101);
        same("regret(" + k + ", " + o + ", " + n + ")", real.regret(k, o, n), oracle.regret(k, o, n));
    }

    private void addFlight() {
        if (oracle.flights.size() >= 6 && !oracle.options.isEmpty() && often(97)) {
            return;
        }
        int f = about(6), t = about(6), d = about(30), s = often(80) ? pick(3) + 1 : about(10), p = often(70) ? pick(9) : about(1000);
        if (often(40) && !oracle.options.isEmpty()) {
            t = oracle.options.get(pick(oracle.options.size())).land;
        }
        same("flight(" + f + ", " + t + ", " + d + ", " + s + ", " + p + ")", real.flight(f, t, d, s, p), oracle.flight(f, t, d, s, p));
    }

    private void askTravel() {
        int o = someOption(), w = about(3);
        same("travel(" + o + ", " + w + ")", real.travel(o, w), oracle.travel(o, w));
    }

    private void choiceCall() {
        int o = someOption();
        switch (pick(14)) {
            case 0:
                addOption();
                break;
            case 1:
                tellRegret(someKin(), o);
                break;
            case 2: case 3:
                addFlight();
                break;
            case 4: case 5:
                askTravel();
                break;
            case 6: case 7:
                same("score(" + o + ")", real.score(o), oracle.score(o));
                break;
            case 8: case 9:
                int w = about(2);
                same("judged(" + o + ", " + w + ")", real.judged(o, w), oracle.judged(o, w));
                break;
            case 10:
                same("choice()", real.choice(), oracle.choice());
                break;
            case 11:
                same("ring()", real.ring(), oracle.ring());
                break;
            case 12:
                int a = about(6), b = about(6), n = about(10000);
                same("miles(" + a + ", " + b + ", " + n + ")", real.miles(a, b, n), oracle.miles(a, b, n));
                break;
            default:
                sometimes();
                break;
        }
    }

    private void sometimes() {
        switch (pick(7)) {
            case 0:
                changeKin();
                break;
            case 1:
                addNote();
                break;
            case 2:
                strike();
                break;
            case 3:
                goYears();
                break;
            case 4:
                same("host()", real.host(), oracle.host());
                break;
            case 5:
                askCount();
                break;
            default:
                meetOrEnd();
                break;
        }
    }

    private void meetOrEnd() {
        if (oracle.metAt == Oracle.NONE || often(5)) {
            int o = often(30) ? -1 : someOption();
            same("meet(" + o + ")", real.meet(o), oracle.meet(o));
        } else {
            same("end()", real.end(), oracle.end());
        }
    }

    // ---- the meeting

    private void meetingRound() {
        for (int i = 0; i < 2; i++) {
            addOption();
        }
        if (often(60)) {
            tellRules();
        }
        for (int i = 0; i < 4; i++) {
            choiceCall();
        }
        meetOrEnd();
        int calls = 30 + pick(60);
        for (int i = 0; i < calls && wrong == 0; i++) {
            meetingCall();
        }
        same("end()", real.end(), oracle.end());
        same("count(6)", real.count(6), oracle.count(6));
        goYears();
    }

    private void meetingCall() {
        int k = someKin();
        boolean on = often(50);
        switch (pick(22)) {
            case 0: case 1:
                same("guest(" + k + ", " + on + ")", real.guest(k, on), oracle.guest(k, on));
                break;
            case 2:
                int beds = about(6);
                same("room(" + beds + ")", real.room(beds), oracle.room(beds));
                break;
            case 3:
                int seats = about(7);
                same("table(" + seats + ")", real.table(seats), oracle.table(seats));
                break;
            case 4:
                int other = someKin();
                same("feud(" + k + ", " + other + ", " + on + ")", real.feud(k, other, on), oracle.feud(k, other, on));
                break;
            case 5:
                int w = about(4), n = w == 3 ? about(5) : often(70) ? pick(6) : about(100);
                same("price(" + w + ", " + n + ")", real.price(w, n), oracle.price(w, n));
                break;
            case 6: case 7:
                bedAll();
                break;
            case 8: case 9:
                eat();
                break;
            case 10: case 11: case 12:
                int sum = often(80) ? 1 + pick(8) * 5 : about(100000);
                same("receipt(" + k + ", " + sum + ")", real.receipt(k, sum), oracle.receipt(k, sum));
                break;
            case 13: case 14: case 15:
                int what = about(3);
                same("owes(" + k + ", " + what + ")", real.owes(k, what), oracle.owes(k, what));
                break;
            case 16: case 17:
                settleAll();
                break;
            case 18:
                askCount();
                break;
            case 19:
                askBranch();
                break;
            case 20:
                coupleUp();
                break;
            default:
                sometimes();
                break;
        }
    }

    private void coupleUp() {
        int a = someKin(), b = someKin(), sort = often(70) ? 1 : 2, c = Math.max(0, oracle.year - pick(3));
        same("note(" + sort + ", " + a + ", " + b + ", " + c + ")", real.note(sort, a, b, c), oracle.note(sort, a, b, c));
    }

    private void bedAll() {
        same("bed()", real.bed(), oracle.bed());
        for (int k = -1; k <= oracle.people.size(); k++) {
            same("bedded(" + k + ")", real.bedded(k), oracle.bedded(k));
        }
    }

    private void eat() {
        int seats = 0;
        for (int t : oracle.tables) {
            seats += t;
        }
        if (seats < oracle.guests.size() && often(50)) {
            int n = 2 + pick(5);
            same("table(" + n + ")", real.table(n), oracle.table(n));
        }
        same("meal()", real.meal(), oracle.meal());
        int m = often(80) ? oracle.meals.size() - 1 : about(9);
        for (int k = -1; k <= oracle.people.size(); k++) {
            same("seated(" + m + ", " + k + ")", real.seated(m, k), oracle.seated(m, k));
        }
    }

    private void settleAll() {
        int many = oracle.settle();
        same("settle()", real.settle(), many);
        for (int k = -1; k <= many; k++) {
            for (int w = 0; w < 3; w++) {
                same("payment(" + k + ", " + w + ")", real.payment(k, w), oracle.payment(k, w));
            }
        }
        int k = about(10), w = about(3);
        same("payment(" + k + ", " + w + ")", real.payment(k, w), oracle.payment(k, w));
    }
}
