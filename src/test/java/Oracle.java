import java.util.ArrayList;
import java.util.HashMap;
import java.util.HashSet;
import java.util.List;
import java.util.Map;
import java.util.NoSuchElementException;
import java.util.Set;
import java.util.TreeSet;

/**
 * The document told once more, in the plainest way and without a thought for speed: tries all there is.
 * The comparison tests hold KinMeet against it. It shares no code with it.
 */
final class Oracle {
    static final int NONE = -1;
    static final long MIN = Long.MIN_VALUE;

    static final class Person {
        int home, branch, means, diet, snores;
    }

    record Note(int sort, int a, int b, int c) { }

    record Flight(int from, int to, int day, int seats, int price) { }

    record Pay(int from, int to, int coins) { }

    static final class Option {
        int land, day;
        Map<Integer, Integer> regret = new HashMap<>();
    }

    final List<Integer> tape = new ArrayList<>();
    List<Line> lines = new ArrayList<>();
    int knots, fault, place = NONE;
    final List<Person> people = new ArrayList<>();
    final List<Note> notes = new ArrayList<>();
    int year;
    final int[][] miles = new int[6][6];
    List<Option> options = new ArrayList<>();
    final List<Flight> flights = new ArrayList<>();
    int metAt = NONE;
    final TreeSet<Integer> guests = new TreeSet<>();
    final List<Integer> rooms = new ArrayList<>();
    final List<Integer> tables = new ArrayList<>();
    final Set<Integer> feuds = new HashSet<>();
    final int[] prices = {3, 5, 1, 2};
    Map<Integer, Integer> bedding = new HashMap<>();
    List<Map<Integer, Integer>> meals = new ArrayList<>();
    Map<Integer, Integer> paid = new HashMap<>();
    final int[] times = new int[4];
    final int[] last = {-1, -1, -1, -1};

    // ---- the book

    boolean isKin(int k) {
        return k >= 0 && k < people.size();
    }

    int kin(int home, int branch, int means, int diet, boolean snores) {
        if (home < 0 || home > 5 || branch < 0 || branch > 3 || means < 0 || means > 99 || diet < 0 || diet > 3 || people.size() == 10) {
            return NONE;
        }
        Person p = new Person();
        p.home = home;
        p.branch = branch;
        p.means = means;
        p.diet = diet;
        p.snores = snores ? 1 : 0;
        people.add(p);
        return people.size() - 1;
    }

    boolean change(int kin, int what, int v) {
        if (!isKin(kin) || v < 0) {
            return false;
        }
        Person p = people.get(kin);
        if (what == 0 && v <= 5) {
            p.home = v;
            return true;
        }
        if (what == 1 && v <= 3) {
            p.branch = v;
            return true;
        }
        if (what == 2 && v <= 99) {
            p.means = v;
            return true;
        }
        if (what == 3 && v <= 3) {
            p.diet = v;
            return true;
        }
        if (what == 4 && v <= 1) {
            p.snores = v;
            return true;
        }
        return false;
    }

    int note(int sort, int a, int b, int c) {
        if (sort < 0 || sort > 4 || !isKin(a) || notes.size() == 100) {
            return NONE;
        }
        if (sort <= 2 && (!isKin(b) || a == b)) {
            return NONE;
        }
        if (sort == 0 ? b > a || c < 0 || c > 1 : c < 0 || c > 999) {
            return NONE;
        }
        notes.add(new Note(sort, a, b, c));
        return notes.size() - 1;
    }

    int strike(int note) {
        if (note < 0 || note >= notes.size() || notes.size() == 100) {
            return NONE;
        }
        notes.add(new Note(9, note, 0, 0));
        return notes.size() - 1;
    }

    boolean counts(int i, int n) {
        for (int j = i + 1; j < n; j++) {
            if (notes.get(j).sort == 9 && notes.get(j).a == i && counts(j, n)) {
                return false;
            }
        }
        return true;
    }

    List<Note> known(int n) {
        List<Note> list = new ArrayList<>();
        for (int i = 0; i < n; i++) {
            if (counts(i, n)) {
                list.add(notes.get(i));
            }
        }
        return list;
    }

    static List<Set<Integer>> sure(List<Note> book) {
        List<Set<Integer>> all = new ArrayList<>();
        for (int k = 0; k < 10; k++) {
            Set<Integer> set = new HashSet<>();
            for (Note t : book) {
                if (t.sort == 0 && t.c == 0 && t.a == k && set.size() < 2) {
                    set.add(t.b);
                }
            }
            all.add(set);
        }
        return all;
    }

    static List<int[]> maybes(List<Note> book) {
        List<Set<Integer>> sure = sure(book);
        List<int[]> list = new ArrayList<>();
        Set<Integer> seen = new HashSet<>();
        for (Note t : book) {
            if (t.sort == 0 && t.c == 1 && !sure.get(t.a).contains(t.b) && list.size() < 6 && seen.add(t.a * 10 + t.b)) {
                list.add(new int[] {t.a, t.b});
            }
        }
        return list;
    }

    /** All pairs (x, steps) above one. */
    static void above(int k, int steps, List<Set<Integer>> parents, Set<Integer> into) {
        into.add(k * 100 + steps);
        for (int p : parents.get(k)) {
            above(p, steps + 1, parents, into);
        }
    }

    /** u, d, how many; null if none. */
    static int[] nearIn(List<Set<Integer>> parents, int a, int b) {
        Set<Integer> ups = new HashSet<>();
        Set<Integer> downs = new HashSet<>();
        above(a, 0, parents, ups);
        above(b, 0, parents, downs);
        int[] best = null;
        for (int total = 0; total < 20 && best == null; total++) {
            for (int u = 0; u <= total && best == null; u++) {
                int many = 0;
                for (int x = 0; x < 10; x++) {
                    if (ups.contains(x * 100 + u) && downs.contains(x * 100 + total - u)) {
                        many++;
                    }
                }
                if (many > 0) {
                    best = new int[] {u, total - u, many};
                }
            }
        }
        return best;
    }

    int near(int n, int a, int b, int what) {
        if (n < 0 || n > notes.size() || !isKin(a) || !isKin(b) || what < 0 || what > 5) {
            return -2;
        }
        List<Note> book = known(n);
        if (what <= 2) {
            int[] near = nearIn(sure(book), a, b);
            return near == null ? (what == 2 ? 0 : NONE) : near[what];
        }
        List<int[]> maybes = maybes(book);
        int worlds = 0;
        int joined = 0;
        int least = NONE;
        for (int w = 0; w < 1 << maybes.size(); w++) {
            List<Set<Integer>> parents = sure(book);
            for (int i = 0; i < maybes.size(); i++) {
                if ((w >> i & 1) == 1) {
                    parents.get(maybes.get(i)[0]).add(maybes.get(i)[1]);
                }
            }
            boolean fits = true;
            for (Set<Integer> p : parents) {
                fits &= p.size() <= 2;
            }
            if (fits) {
                worlds++;
                int[] near = nearIn(parents, a, b);
                if (near != null) {
                    joined++;
                    least = least == NONE ? near[0] + near[1] : Math.min(least, near[0] + near[1]);
                }
            }
        }
        return what == 3 ? worlds : what == 4 ? joined : least;
    }

    static int latestYear(List<Note> book, int sort, int a) {
        int y = NONE;
        for (Note t : book) {
            if (t.sort == sort && t.a == a) {
                y = t.c;
            }
        }
        return y;
    }

    static boolean alive(List<Note> book, int a, int y) {
        int born = latestYear(book, 3, a);
        int died = latestYear(book, 4, a);
        return !(born > y) && !(died >= 0 && died <= y);
    }

    static int age(List<Note> book, int a, int y) {
        int born = latestYear(book, 3, a);
        return born >= 0 && born <= y ? y - born : -1;
    }

    static boolean couple(List<Note> book, int a, int b, int y) {
        for (int year = y; year >= 0; year--) {
            for (int i = book.size() - 1; i >= 0; i--) {
                Note t = book.get(i);
                if ((t.sort == 1 || t.sort == 2) && t.c == year && (t.a == a && t.b == b || t.a == b && t.b == a)) {
                    return t.sort == 1;
                }
            }
        }
        return false;
    }

    int told(int n, int y, int a, int b, int what) {
        if (n < 0 || n > notes.size() || !isKin(a) || what < 0 || what > 3) {
            return -2;
        }
        List<Note> book = known(n);
        if (what == 3) {
            return sure(book).get(a).size();
        }
        if (y < 0 || y > 999 || what == 2 && !isKin(b)) {
            return -2;
        }
        if (what == 0) {
            return alive(book, a, y) ? 1 : 0;
        }
        return what == 1 ? age(book, a, y) : couple(book, a, b, y) ? 1 : 0;
    }

    int years(int n) {
        if (n < 0 || n > 99 || year + n > 999 || metAt != NONE) {
            return NONE;
        }
        return year += n;
    }

    List<Note> book() {
        return known(notes.size());
    }

    boolean lives(int k) {
        return alive(book(), k, year);
    }

    List<Integer> living() {
        List<Note> book = book();
        List<Integer> list = new ArrayList<>();
        for (int k = 0; k < people.size(); k++) {
            if (alive(book, k, year)) {
                list.add(k);
            }
        }
        return list;
    }

    // ---- the rules

    static final class Fault extends RuntimeException {
        private static final long serialVersionUID = 1;
        final int kind, at;

        Fault(int kind, int at) {
            super("fault", null, false, false);
            this.kind = kind;
            this.at = at;
        }
    }

    static final class Wrong extends RuntimeException {
        private static final long serialVersionUID = 1;

        Wrong() {
            super("error", null, false, false);
        }
    }

    record Line(String word, Tree e) { }

    record Tree(String op, long number, Tree left, Tree right) { }

    record Token(String text, int at) { }

    /** Recursive descent over a list of tokens; a FAULT is thrown at the first token that has one. */
    static final class Reader {
        final List<Token> tokens = new ArrayList<>();
        int i, open, knots;
        String line;
        boolean inHeap;

        Reader(String text) {
            int p = 0;
            while (p < text.length()) {
                char c = text.charAt(p);
                int from = p;
                if (c == ' ' || c == '\n') {
                    p++;
                    continue;
                }
                if (c >= 'a' && c <= 'z') {
                    while (p < text.length() && text.charAt(p) >= 'a' && text.charAt(p) <= 'z') {
                        p++;
                    }
                } else if (c >= '0' && c <= '9') {
                    while (p < text.length() && text.charAt(p) >= '0' && text.charAt(p) <= '9') {
                        p++;
                    }
                } else if (text.startsWith("<=", p) || text.startsWith(">=", p) || text.startsWith("<>", p)) {
                    p += 2;
                } else {
                    p++;
                }
                tokens.add(new Token(text.substring(from, p), from));
            }
            tokens.add(new Token("", text.length()));
        }

        String now() {
            return tokens.get(i).text;
        }

        int at() {
            return tokens.get(i).at;
        }

        boolean is(String... words) {
            for (String w : words) {
                if (w.equals(now())) {
                    return true;
                }
            }
            return false;
        }

        String take() {
            return tokens.get(i++).text;
        }

        void must(String word) {
            if (!is(word)) {
                throw new Fault(1, at());
            }
            i++;
        }

        void knot() {
            if (knots == 120) {
                throw new Fault(2, at());
            }
            knots++;
        }

        List<Line> text() {
            List<Line> lines = new ArrayList<>();
            while (!is("")) {
                if (!is("score", "bar", "pay", "host")) {
                    throw new Fault(1, at());
                }
                String word = now();
                long told = lines.stream().filter(l -> l.word.equals(word)).count();
                if (word.equals("bar") ? told == 4 : told == 1) {
                    throw new Fault(word.equals("bar") ? 2 : 3, at());
                }
                line = take();
                lines.add(new Line(word, or()));
                must(";");
            }
            return lines;
        }

        Tree or() {
            Tree left = and();
            while (is("or")) {
                knot();
                take();
                left = new Tree("or", 0, left, and());
            }
            return left;
        }

        Tree and() {
            Tree left = not();
            while (is("and")) {
                knot();
                take();
                left = new Tree("and", 0, left, not());
            }
            return left;
        }

        Tree not() {
            if (is("not")) {
                knot();
                take();
                return new Tree("not", 0, not(), null);
            }
            Tree left = sum();
            if (is("<", "<=", "=", "<>", ">", ">=")) {
                knot();
                String op = take();
                left = new Tree(op, 0, left, sum());
            }
            return left;
        }

        Tree sum() {
            Tree left = product();
            while (is("+", "-")) {
                knot();
                String op = take();
                left = new Tree(op, 0, left, product());
            }
            return left;
        }

        Tree product() {
            Tree left = unary();
            while (is("*", "/", "%")) {
                knot();
                String op = take();
                left = new Tree(op, 0, left, unary());
            }
            return left;
        }

        Tree unary() {
            if (is("-")) {
                knot();
                take();
                return new Tree("minus", 0, unary(), null);
            }
            return primary();
        }

        void openBracket() {
            if (is("(") && open == 8) {
                throw new Fault(2, at());
            }
            must("(");
            open++;
        }

        void closeBracket() {
            must(")");
            open--;
        }

        Tree primary() {
            String word = now();
            if (!word.isEmpty() && word.charAt(0) >= '0' && word.charAt(0) <= '9') {
                String bare = word.replaceFirst("^0+", "");
                if (bare.length() > 6) {
                    throw new Fault(2, at());
                }
                knot();
                take();
                return new Tree("number", bare.isEmpty() ? 0 : Long.parseLong(bare), null, null);
            }
            if (is("(")) {
                openBracket();
                Tree e = or();
                closeBracket();
                return e;
            }
            if (is("sum", "max", "min", "count")) {
                return heap();
            }
            boolean ofOption = is("land", "day", "fare", "come");
            boolean ofKin = is("home", "branch", "age", "means", "can", "regret", "miles");
            boolean ofBranch = is("times", "last", "people");
            if (!ofOption && !ofKin && !ofBranch && !is("mine")) {
                throw new Fault(1, at());
            }
            knot();
            boolean fits;
            if (line.equals("host")) {
                fits = ofBranch || inHeap && is("home", "branch", "age", "means", "mine");
            } else if (line.equals("pay")) {
                fits = ofOption || ofKin;
            } else {
                fits = ofOption || inHeap && ofKin;
            }
            if (!fits) {
                throw new Fault(4, at());
            }
            return new Tree(take(), 0, null, null);
        }

        Tree heap() {
            knot();
            if (inHeap) {
                throw new Fault(4, at());
            }
            String word = take();
            openBracket();
            inHeap = true;
            Tree e = or();
            Tree test = null;
            if (!word.equals("count") && is("if")) {
                take();
                test = or();
            }
            closeBracket();
            inHeap = false;
            return new Tree(word, 0, e, test);
        }
    }

    /** Works out a tree; kin is the one at hand, or NONE. */
    final class Worker {
        int option = NONE, branch = NONE, kin = NONE;

        long bound(long v) {
            if (v > 1000000000000L || v < -1000000000000L) {
                throw new Wrong();
            }
            return v;
        }

        long work(Tree t) {
            switch (t.op) {
                case "number":
                    return t.number;
                case "or":
                    return work(t.left) != 0 || work(t.right) != 0 ? 1 : 0;
                case "and":
                    return work(t.left) != 0 && work(t.right) != 0 ? 1 : 0;
                case "not":
                    return work(t.left) == 0 ? 1 : 0;
                case "minus":
                    return bound(-work(t.left));
                case "sum": case "max": case "min": case "count":
                    return heap(t);
                default:
                    return t.left == null ? name(t.op) : two(t.op, work(t.left), work(t.right));
            }
        }

        long two(String op, long a, long b) {
            switch (op) {
                case "+":
                    return bound(a + b);
                case "-":
                    return bound(a - b);
                case "*":
                    java.math.BigInteger p = java.math.BigInteger.valueOf(a).multiply(java.math.BigInteger.valueOf(b));
                    if (p.abs().compareTo(java.math.BigInteger.valueOf(1000000000000L)) > 0) {
                        throw new Wrong();
                    }
                    return p.longValue();
                case "/": case "%":
                    if (b == 0) {
                        throw new Wrong();
                    }
                    return op.equals("/") ? a / b : a - a / b * b;
                case "<":
                    return a < b ? 1 : 0;
                case "<=":
                    return a <= b ? 1 : 0;
                case "=":
                    return a == b ? 1 : 0;
                case "<>":
                    return a != b ? 1 : 0;
                case ">":
                    return a > b ? 1 : 0;
                default:
                    return a >= b ? 1 : 0;
            }
        }

        long heap(Tree t) {
            int outer = kin;
            List<Long> values = new ArrayList<>();
            for (int k : living()) {
                kin = k;
                if (t.right == null || work(t.right) != 0) {
                    values.add(work(t.left));
                    if (t.op.equals("sum")) {
                        bound(values.stream().mapToLong(v -> v).sum());
                    }
                }
            }
            kin = outer;
            switch (t.op) {
                case "sum":
                    return values.stream().mapToLong(v -> v).sum();
                case "count":
                    return values.stream().filter(v -> v != 0).count();
                case "max":
                    return values.stream().mapToLong(v -> v).max().orElse(0);
                default:
                    return values.stream().mapToLong(v -> v).min().orElse(0);
            }
        }

        long name(String name) {
            switch (name) {
                case "land":
                    return options.get(option).land;
                case "day":
                    return options.get(option).day;
                case "come":
                    return whoCan(option).size();
                case "fare":
                    return travel(option, 0) == whoCan(option).size() ? travel(option, 1) : -1;
                case "home":
                    return people.get(kin).home;
                case "branch":
                    return people.get(kin).branch;
                case "age":
                    return age(book(), kin, year);
                case "means":
                    return people.get(kin).means;
                case "can":
                    return whoCan(option).contains(kin) ? 1 : 0;
                case "regret":
                    return lives(kin) ? options.get(option).regret.getOrDefault(kin, 100) : 100;
                case "miles":
                    return miles[people.get(kin).home][options.get(option).land];
                case "times":
                    return times[branch];
                case "last":
                    return last[branch];
                case "people":
                    return branch(branch, 2);
                default:
                    return people.get(kin).branch == branch ? 1 : 0;
            }
        }

        long value(Tree t) {
            try {
                return work(t);
            } catch (Wrong e) {
                return MIN;
            }
        }
    }

    int feed(int a, int b, int c, int d, int e) {
        if (tape.size() + 20 > 600) {
            return NONE;
        }
        for (int n : new int[] {a, b, c, d, e}) {
            tape.add(n >>> 24);
            tape.add(n >>> 16 & 255);
            tape.add(n >>> 8 & 255);
            tape.add(n & 255);
        }
        return tape.size();
    }

    int rules(int n) {
        if (n < 0 || n > tape.size()) {
            return -2;
        }
        StringBuilder text = new StringBuilder();
        for (int i = 0; i < n; i++) {
            text.append((char) (int) tape.get(i));
        }
        tape.clear();
        fault = 0;
        place = NONE;
        Reader reader = new Reader(text.toString());
        try {
            lines = reader.text();
            knots = reader.knots;
            return lines.size();
        } catch (Fault f) {
            fault = f.kind;
            place = f.at;
            return NONE;
        }
    }

    int fault(int what) {
        return what == 0 ? fault : what == 1 ? place : NONE;
    }

    List<Tree> linesOf(String word) {
        List<Tree> list = new ArrayList<>();
        for (Line l : lines) {
            if (l.word.equals(word)) {
                list.add(l.e);
            }
        }
        return list;
    }

    // ---- options and flights

    boolean miles(int a, int b, int n) {
        if (a < 0 || a > 5 || b < 0 || b > 5 || a == b || n < 0 || n > 9999) {
            return false;
        }
        miles[a][b] = n;
        miles[b][a] = n;
        return true;
    }

    int option(int land, int day) {
        if (land < 0 || land > 5 || day < 1 || day > 30 || options.size() == 6 || metAt != NONE) {
            return NONE;
        }
        Option o = new Option();
        o.land = land;
        o.day = day;
        options.add(o);
        return options.size() - 1;
    }

    boolean isOption(int o) {
        return o >= 0 && o < options.size();
    }

    boolean regret(int kin, int option, int n) {
        if (!isKin(kin) || !isOption(option) || n < 0 || n > 100 || metAt != NONE) {
            return false;
        }
        options.get(option).regret.put(kin, n);
        return true;
    }

    int flight(int from, int to, int day, int seats, int price) {
        if (from < 0 || from > 5 || to < 0 || to > 5 || from == to || day < 1 || day > 30 || seats < 1 || seats > 9
                || price < 0 || price > 999 || flights.size() == 14) {
            return NONE;
        }
        flights.add(new Flight(from, to, day, seats, price));
        return flights.size() - 1;
    }

    int regretOf(int k, int o) {
        return options.get(o).regret.getOrDefault(k, 100);
    }

    List<Integer> whoCan(int o) {
        List<Integer> list = new ArrayList<>();
        for (int k : living()) {
            if (regretOf(k, o) < 100) {
                list.add(k);
            }
        }
        return list;
    }

    private int crowdSize;

    /** Tries all numbers of people on all flights. */
    int travel(int o, int what) {
        if (!isOption(o) || what < 0 || what > 2) {
            return NONE;
        }
        List<Integer> can = whoCan(o);
        if (what == 2) {
            return can.size();
        }
        int goal = options.get(o).land;
        List<Flight> usable = new ArrayList<>();
        for (Flight f : flights) {
            if (f.day <= options.get(o).day) {
                usable.add(f);
            }
        }
        int[] crowd = new int[6];
        for (int k : can) {
            crowd[people.get(k).home]++;
        }
        int[] best = {crowd[goal], 0};
        Map<String, Integer> seen = new HashMap<>();
        crowdSize = can.size() - crowd[goal];
        spread(usable, 0, crowd, goal, 0, best, seen);
        return best[what];
    }

    /**
     * A flow is a number for each flight; lands then keep crowd - out + in, never below 0. (A flow with a ring in it
     * that nobody enters costs at least what it does without, and carries no more: it does no harm.)
     */
    private void spread(List<Flight> usable, int i, int[] kept, int goal, int cost, int[] best, Map<String, Integer> seen) {
        String key = i + ":" + java.util.Arrays.toString(kept);
        Integer before = seen.get(key);
        if (before != null && before <= cost) {
            return;
        }
        seen.put(key, cost);
        if (i == usable.size()) {
            for (int l = 0; l < 6; l++) {
                if (kept[l] < 0) {
                    return;
                }
            }
            if (kept[goal] > best[0] || kept[goal] == best[0] && cost < best[1]) {
                best[0] = kept[goal];
                best[1] = cost;
            }
            return;
        }
        Flight f = usable.get(i);
        // rings left out, no flight bears more than all
        for (int n = 0; n <= Math.min(f.seats, crowdSize); n++) {
            kept[f.from] -= n;
            kept[f.to] += n;
            spread(usable, i + 1, kept, goal, cost + n * f.price, best, seen);
            kept[f.from] += n;
            kept[f.to] -= n;
        }
    }

    long score(int o) {
        if (!isOption(o)) {
            return MIN;
        }
        List<Tree> trees = linesOf("score");
        if (trees.isEmpty()) {
            long sum = 0;
            for (int k : living()) {
                sum += regretOf(k, o);
            }
            return sum;
        }
        Worker w = new Worker();
        w.option = o;
        return w.value(trees.get(0));
    }

    boolean beats(int a, int b) {
        int less = 0;
        int more = 0;
        for (int k : living()) {
            if (regretOf(k, a) < regretOf(k, b)) {
                less++;
            }
            if (regretOf(k, a) > regretOf(k, b)) {
                more++;
            }
        }
        return less > more;
    }

    int judged(int o, int what) {
        if (!isOption(o) || what < 0 || what > 1) {
            return NONE;
        }
        if (what == 1) {
            int n = 0;
            for (int i = 0; i < options.size(); i++) {
                if (i != o && beats(o, i)) {
                    n++;
                }
            }
            return n;
        }
        Worker w = new Worker();
        w.option = o;
        int bar = 0;
        for (Tree t : linesOf("bar")) {
            bar++;
            long v = w.value(t);
            if (v == MIN || v != 0) {
                return bar;
            }
        }
        return score(o) == MIN ? 5 : 0;
    }

    int choice() {
        int best = NONE;
        for (int o = 0; o < options.size(); o++) {
            if (judged(o, 0) == 0 && (best == NONE || score(o) < score(best))) {
                best = o;
            }
        }
        return best;
    }

    int ring() {
        int n = options.size();
        boolean[][] beats = new boolean[n][n];
        for (int a = 0; a < n; a++) {
            for (int b = 0; b < n; b++) {
                beats[a][b] = a != b && beats(a, b);
            }
        }
        for (int size = 1; size <= n; size++) {
            for (int set = 1; set < 1 << n; set++) {
                boolean all = Integer.bitCount(set) == size;
                for (int a = 0; a < n; a++) {
                    for (int b = 0; b < n; b++) {
                        if ((set >> a & 1) == 1 && (set >> b & 1) == 0 && !beats[a][b]) {
                            all = false;
                        }
                    }
                }
                if (all) {
                    return set;
                }
            }
        }
        return 0;
    }

    // ---- the meeting

    int meet(int option) {
        int o = option == NONE ? choice() : option;
        if (metAt != NONE || !isOption(o)) {
            return NONE;
        }
        metAt = o;
        guests.addAll(whoCan(o));
        return guests.size();
    }

    boolean guest(int kin, boolean on) {
        if (metAt == NONE || !isKin(kin) || guests.contains(kin) == on || on && !lives(kin) || !on && paid.containsKey(kin)) {
            return false;
        }
        if (on) {
            guests.add(kin);
        } else {
            guests.remove(kin);
        }
        return true;
    }

    int room(int beds) {
        if (beds < 1 || beds > 5 || rooms.size() == 4) {
            return NONE;
        }
        rooms.add(beds);
        return rooms.size() - 1;
    }

    int table(int seats) {
        if (seats < 2 || seats > 6 || tables.size() == 3) {
            return NONE;
        }
        tables.add(seats);
        return tables.size() - 1;
    }

    boolean feud(int a, int b, boolean on) {
        int key = Math.min(a, b) * 10 + Math.max(a, b);
        if (!isKin(a) || !isKin(b) || a == b || feuds.contains(key) == on) {
            return false;
        }
        return on ? feuds.add(key) : feuds.remove(key);
    }

    boolean price(int what, int n) {
        if (what < 0 || what > 3 || (what == 3 ? n < 1 || n > 4 : n < 0 || n > 99)) {
            return false;
        }
        prices[what] = n;
        return true;
    }

    private int[] found;
    private int foundCost;

    /** All ways to put the guests into places, one by one. */
    private void place(List<Integer> who, int i, int[] where, List<Integer> space, boolean meal, boolean[][] couples) {
        if (i == who.size()) {
            int cost = meal ? -fresh(who, where) : bedCost(who, where, couples);
            if (found == null || cost < foundCost || cost == foundCost && before(who, where, found, space.size())) {
                found = where.clone();
                foundCost = cost;
            }
            return;
        }
        for (int p = 0; p < space.size(); p++) {
            int n = 0;
            boolean fits = true;
            Set<Integer> diets = new HashSet<>();
            diets.add(people.get(who.get(i)).diet);
            for (int j = 0; j < i; j++) {
                if (where[j] == p) {
                    n++;
                    fits &= !feuds.contains(who.get(j) * 10 + who.get(i));
                    diets.add(people.get(who.get(j)).diet);
                }
            }
            if (fits && n < space.get(p) && (!meal || diets.size() <= prices[3])) {
                where[i] = p;
                place(who, i + 1, where, space, meal, couples);
            }
        }
    }

    private static boolean before(List<Integer> who, int[] a, int[] b, int places) {
        for (int p = 0; p < places; p++) {
            int x = 0;
            int y = 0;
            for (int i = 0; i < who.size(); i++) {
                x |= a[i] == p ? 1 << who.get(i) : 0;
                y |= b[i] == p ? 1 << who.get(i) : 0;
            }
            if (x != y) {
                return x < y;
            }
        }
        return false;
    }

    private int bedCost(List<Integer> who, int[] where, boolean[][] couples) {
        int cost = 0;
        for (int i = 0; i < who.size(); i++) {
            int k = who.get(i);
            if (bedding.containsKey(k) && bedding.get(k) != where[i]) {
                cost += prices[2];
            }
            for (int j = 0; j < i; j++) {
                if (where[i] == where[j] && people.get(k).snores != people.get(who.get(j)).snores) {
                    cost += prices[0];
                }
                if (where[i] != where[j] && couples[i][j]) {
                    cost += prices[1];
                }
            }
        }
        return cost;
    }

    private int fresh(List<Integer> who, int[] where) {
        int n = 0;
        for (int i = 0; i < who.size(); i++) {
            for (int j = 0; j < i; j++) {
                boolean isNew = where[i] == where[j];
                for (Map<Integer, Integer> m : meals) {
                    Integer a = m.get(who.get(i));
                    Integer b = m.get(who.get(j));
                    isNew &= a == null || b == null || !a.equals(b);
                }
                n += isNew ? 1 : 0;
            }
        }
        return n;
    }

    private Map<Integer, Integer> search(List<Integer> space, boolean meal) {
        List<Integer> who = new ArrayList<>(guests);
        boolean[][] couples = new boolean[who.size()][who.size()];
        List<Note> book = book();
        for (int i = 0; i < who.size(); i++) {
            for (int j = 0; j < i; j++) {
                couples[i][j] = couple(book, who.get(i), who.get(j), year);
            }
        }
        found = null;
        place(who, 0, new int[who.size()], space, meal, couples);
        if (found == null) {
            return null;
        }
        Map<Integer, Integer> map = new HashMap<>();
        for (int i = 0; i < who.size(); i++) {
            map.put(who.get(i), found[i]);
        }
        return map;
    }

    int bed() {
        if (metAt == NONE) {
            return NONE;
        }
        Map<Integer, Integer> map = search(rooms, false);
        if (map == null) {
            return NONE;
        }
        bedding = map;
        return foundCost;
    }

    int bedded(int kin) {
        return bedding.getOrDefault(kin, NONE);
    }

    int meal() {
        if (metAt == NONE || meals.size() == 8) {
            return NONE;
        }
        Map<Integer, Integer> map = search(tables, true);
        if (map == null) {
            return NONE;
        }
        meals.add(map);
        return -foundCost;
    }

    int seated(int meal, int kin) {
        return meal < 0 || meal >= meals.size() ? NONE : meals.get(meal).getOrDefault(kin, NONE);
    }

    // ---- money

    int receipt(int kin, int sum) {
        if (metAt == NONE || !guests.contains(kin) || sum < 1 || sum > 99999 || paid.getOrDefault(kin, 0) + sum > 999999) {
            return NONE;
        }
        paid.merge(kin, sum, Integer::sum);
        return paid.get(kin);
    }

    int receipts() {
        return paid.values().stream().mapToInt(v -> v).sum();
    }

    long weight(int kin) {
        List<Tree> trees = linesOf("pay");
        if (trees.isEmpty()) {
            return people.get(kin).means;
        }
        Worker w = new Worker();
        w.option = metAt;
        w.kin = kin;
        long v = w.value(trees.get(0));
        return v < 0 ? 0 : Math.min(v, 1000000);
    }

    Map<Integer, Integer> shares() {
        Map<Integer, Long> weights = new HashMap<>();
        long all = 0;
        for (int k : guests) {
            weights.put(k, weight(k));
            all += weights.get(k);
        }
        if (all == 0) {
            for (int k : guests) {
                weights.put(k, 1L);
            }
            all = guests.size();
        }
        Map<Integer, Integer> shares = new HashMap<>();
        int left = receipts();
        for (int k : guests) {
            shares.put(k, (int) (receipts() * weights.get(k) / all));
            left -= shares.get(k);
        }
        for (int k : guests) {
            if (left > 0 && weights.get(k) > 0) {
                shares.merge(k, 1, Integer::sum);
                left--;
            }
        }
        return shares;
    }

    long owes(int kin, int what) {
        if (!guests.contains(kin) || what < 0 || what > 2) {
            return MIN;
        }
        return what == 0 ? weight(kin) : what == 1 ? shares().get(kin) : paid.getOrDefault(kin, 0) - shares().get(kin);
    }

    /** All partitions into groups with balances of 0, the group of the least one first. */
    private static void partitions(int left, int[] balance, List<Integer> groups, List<List<Integer>> into) {
        if (left == 0) {
            into.add(new ArrayList<>(groups));
            return;
        }
        for (int g = 1; g <= left; g++) {
            if ((g & left) == g && (g & left & -left) != 0) {
                int sum = 0;
                for (int k = 0; k < 10; k++) {
                    sum += (g >> k & 1) * balance[k];
                }
                if (sum == 0) {
                    groups.add(g);
                    partitions(left ^ g, balance, groups, into);
                    groups.remove(groups.size() - 1);
                }
            }
        }
    }

    List<Pay> payments() {
        int[] balance = new int[10];
        int members = 0;
        Map<Integer, Integer> shares = shares();
        for (int k : guests) {
            balance[k] = paid.getOrDefault(k, 0) - shares.get(k);
            members |= balance[k] != 0 ? 1 << k : 0;
        }
        List<List<Integer>> all = new ArrayList<>();
        partitions(members, balance, new ArrayList<>(), all);
        List<Integer> best = all.get(0);
        for (List<Integer> p : all) {
            // they come in the order of their groups' numbers
            if (p.size() > best.size()) {
                best = p;
            }
        }
        List<Pay> pays = new ArrayList<>();
        for (int g : best) {
            while (true) {
                int from = NONE;
                int to = NONE;
                for (int k = 9; k >= 0; k--) {
                    if ((g >> k & 1) == 1 && balance[k] < 0) {
                        from = k;
                    }
                    if ((g >> k & 1) == 1 && balance[k] > 0) {
                        to = k;
                    }
                }
                if (from == NONE) {
                    break;
                }
                int coins = Math.min(-balance[from], balance[to]);
                balance[from] += coins;
                balance[to] -= coins;
                pays.add(new Pay(from, to, coins));
            }
        }
        return pays;
    }

    int settle() {
        return metAt == NONE ? NONE : payments().size();
    }

    int payment(int k, int what) {
        if (metAt == NONE || k < 0 || what < 0 || what > 2 || k >= payments().size()) {
            return NONE;
        }
        Pay p = payments().get(k);
        return what == 0 ? p.from : what == 1 ? p.to : p.coins;
    }

    // ---- the host

    int host() {
        List<Tree> trees = linesOf("host");
        int best = NONE;
        long bestValue = 0;
        for (int b = 0; b < 4; b++) {
            if (branch(b, 2) == 0) {
                continue;
            }
            if (trees.isEmpty()) {
                if (best == NONE || times[b] < times[best] || times[b] == times[best] && last[b] < last[best]) {
                    best = b;
                }
            } else {
                Worker w = new Worker();
                w.branch = b;
                long v = w.value(trees.get(0));
                if (v != MIN && (best == NONE || v > bestValue)) {
                    best = b;
                    bestValue = v;
                }
            }
        }
        return best;
    }

    int end() {
        if (metAt == NONE) {
            return -2;
        }
        int h = host();
        if (h != NONE) {
            times[h]++;
            last[h] = year;
        }
        metAt = NONE;
        options = new ArrayList<>();
        guests.clear();
        bedding = new HashMap<>();
        meals = new ArrayList<>();
        paid = new HashMap<>();
        return h;
    }

    int branch(int branch, int what) {
        if (branch < 0 || branch > 3) {
            throw new IndexOutOfBoundsException();
        }
        if (what < 0 || what > 2) {
            throw new NoSuchElementException();
        }
        if (what == 2) {
            int n = 0;
            for (int k : living()) {
                n += people.get(k).branch == branch ? 1 : 0;
            }
            return n;
        }
        return what == 0 ? times[branch] : last[branch];
    }

    int count(int what) {
        int[] all = {people.size(), notes.size(), year, options.size(), flights.size(),
            metAt == NONE ? NONE : guests.size(), meals.size(), metAt, receipts(), knots};
        return what < 0 || what > 9 ? NONE : all[what];
    }
}
