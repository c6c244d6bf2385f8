import java.util.Arrays;
import java.util.NoSuchElementException;

/** A house that keeps a family's meetings. The face stands first; the classes behind it do the work. */
public final class KinMeet {
    public static final int NONE = -1;

    private static final int REFUSED = -2;
    /** No VALUE can be this one, since they stay within ten to the twelve. */
    private static final long NO_VALUE = -9223372036854775808L;
    private static final int KIN_MOST = 10;
    /** Sets of KIN are bits; so many sets there are. */
    private static final int SETS = 1 << KIN_MOST;
    private static final int LANDS = 6;
    private static final int BRANCHES = 4;
    private static final int YEAR_LAST = 999;
    private static final int YEARS_MOST = 99;
    private static final int DAY_LAST = 30;
    private static final int CANNOT = 100;
    private static final int FEED_BYTES = 20;
    private static final int WEIGHT_MOST = 1000000;

    /** Where a LINE stands in a Program. The bars are first and score is behind them: a place and 1 is what judged tells. */
    private static final int BARS_MOST = 4;
    private static final int SCORE_LINE = 4;
    private static final int PAY_LINE = 5;
    private static final int HOST_LINE = 6;
    private static final int LINES_MOST = 7;

    /** Tokens. One-sign tokens go as in Tape.SIGNS, words as in Tape.WORDS; a Program's steps bear the same numbers. */
    private static final int STOP = 0;
    private static final int BAD = 1;
    private static final int NUMBER = 2;
    private static final int SEMICOLON = 3;
    private static final int OPEN = 4;
    private static final int CLOSE = 5;
    private static final int PLUS = 6;
    private static final int MINUS = 7;
    private static final int STAR = 8;
    private static final int SLASH = 9;
    private static final int PERCENT = 10;
    private static final int LESS = 11;
    private static final int SAME = 12;
    private static final int MORE = 13;
    private static final int LESS_SAME = 14;
    private static final int MORE_SAME = 15;
    private static final int UNLIKE = 16;
    private static final int SCORE = 20;
    private static final int BAR = 21;
    private static final int PAY = 22;
    private static final int HOST = 23;
    private static final int OR = 24;
    private static final int AND = 25;
    private static final int NOT = 26;
    private static final int IF = 27;
    private static final int SUM = 28;
    private static final int MAX = 29;
    private static final int MIN = 30;
    private static final int COUNT = 31;
    private static final int LAND = 32;
    private static final int DAY = 33;
    private static final int FARE = 34;
    private static final int COME = 35;
    private static final int HOME = 36;
    private static final int BRANCH = 37;
    private static final int AGE = 38;
    private static final int MEANS = 39;
    private static final int CAN = 40;
    private static final int REGRET = 41;
    private static final int MILES = 42;
    private static final int TIMES = 43;
    private static final int LAST = 44;
    private static final int PEOPLE = 45;
    private static final int MINE = 46;
    /** Steps of a Program that no token names. */
    private static final int NEGATE = 50;
    private static final int TRUTH = 51;
    private static final int NAME = 52;
    private static final int HEAP = 53;
    private static final int TAKE = 54;
    private static final int TEST = 55;

    private final Tape tape;
    private final Parser parser;
    private Program program;
    private Program spare;
    private final Book book;
    private final Ancestry ancestry;
    private final Options options;
    private final Flights flights;
    private final Machine machine;
    private final House house;
    private final Meeting meeting;
    private final Purse purse;
    private final int[] hosted = new int[BRANCHES];
    private final int[] hostedLast = new int[BRANCHES];

    public KinMeet() {
        Tape newTape = new Tape();
        Book newBook = new Book();
        Options newOptions = new Options(newBook);
        tape = newTape;
        parser = new Parser(newTape);
        program = new Program();
        spare = new Program();
        book = newBook;
        ancestry = new Ancestry();
        options = newOptions;
        flights = new Flights();
        machine = new Machine(newBook, newOptions);
        house = new House();
        meeting = new Meeting();
        purse = new Purse();
        Arrays.fill(hostedLast, NONE);
    }

    public int feed(int a, int b, int c, int d, int e) {
        if (tape.length + FEED_BYTES > Tape.LENGTH_MOST) {
            return NONE;
        }
        tape.put(a);
        tape.put(b);
        tape.put(c);
        tape.put(d);
        tape.put(e);
        return tape.length;
    }

    public int rules(int n) {
        if (n < 0 || n > tape.length) {
            return REFUSED;
        }
        parser.parse(n, spare);
        tape.length = 0;
        if (parser.fault != 0) {
            return NONE;
        }
        Program old = program;
        program = spare;
        spare = old;
        return program.lines;
    }

    public int fault(int what) {
        if (what == 0) {
            return parser.fault;
        }
        return what == 1 ? parser.place : NONE;
    }

    public int kin(int home, int branch, int means, int diet, boolean snores) {
        boolean fits = book.kinSize < KIN_MOST
                && book.traitFits(Book.HOME_TRAIT, home) && book.traitFits(Book.BRANCH_TRAIT, branch)
                && book.traitFits(Book.MEANS_TRAIT, means) && book.traitFits(Book.DIET_TRAIT, diet);
        return fits ? book.addKin(home, branch, means, diet, snores ? 1 : 0) : NONE;
    }

    public boolean change(int kin, int what, int v) {
        if (!book.isKin(kin) || !book.traitFits(what, v)) {
            return false;
        }
        book.trait[what][kin] = v;
        return true;
    }

    public int note(int sort, int a, int b, int c) {
        return book.noteFits(sort, a, b, c) ? book.addNote(sort, a, b, c) : NONE;
    }

    public int strike(int note) {
        return note >= 0 && note < book.noteSize ? book.addNote(Book.STRIKE, note, 0, 0) : NONE;
    }

    public int near(int n, int a, int b, int what) {
        if (!book.isKnown(n) || !book.isKin(a) || !book.isKin(b) || what < 0 || what > 5) {
            return REFUSED;
        }
        book.read(n);
        ancestry.read(book);
        return what <= 2 ? ancestry.sureNear(a, b, what) : ancestry.overWorlds(a, b, what);
    }

    public int told(int n, int year, int a, int b, int what) {
        boolean asks = book.isKnown(n) && book.isKin(a) && what >= 0 && what <= 3;
        if (!asks || (what != 3 && !Book.isYear(year)) || (what == 2 && !book.isKin(b))) {
            return REFUSED;
        }
        book.read(n);
        if (what == 0) {
            return book.livesIn(a, year) ? 1 : 0;
        }
        if (what == 1) {
            return book.ageIn(a, year);
        }
        if (what == 2) {
            return book.coupleIn(a, b, year) ? 1 : 0;
        }
        ancestry.read(book);
        return Integer.bitCount(ancestry.sure[a]);
    }

    public int years(int n) {
        if (n < 0 || n > YEARS_MOST || book.year + n > YEAR_LAST || meeting.isOn()) {
            return NONE;
        }
        book.year += n;
        return book.year;
    }

    public boolean miles(int a, int b, int n) {
        if (!isLand(a) || !isLand(b) || a == b || n < 0 || n > 9999) {
            return false;
        }
        options.setMiles(a, b, n);
        return true;
    }

    public int option(int land, int day) {
        if (!isLand(land) || !isDay(day) || options.size >= Options.MOST || meeting.isOn()) {
            return NONE;
        }
        return options.addOption(land, day);
    }

    public boolean regret(int kin, int option, int n) {
        if (!book.isKin(kin) || !options.has(option) || n < 0 || n > CANNOT || meeting.isOn()) {
            return false;
        }
        options.regrets[option][kin] = n;
        return true;
    }

    public int flight(int from, int to, int day, int seats, int price) {
        boolean fits = isLand(from) && isLand(to) && from != to && isDay(day)
                && seats >= 1 && seats <= 9 && price >= 0 && price <= 999 && flights.size < Flights.MOST;
        return fits ? flights.addFlight(from, to, day, seats, price) : NONE;
    }

    public int travel(int option, int what) {
        if (!options.has(option) || what < 0 || what > 2) {
            return NONE;
        }
        book.readNow();
        if (what == 2) {
            return Integer.bitCount(options.whoCan(option));
        }
        flyTo(option);
        return what == 0 ? flights.brought : flights.prices;
    }

    public long score(int option) {
        if (!options.has(option)) {
            return NO_VALUE;
        }
        book.readNow();
        lookAt(option);
        return scoreAt(option);
    }

    public int judged(int option, int what) {
        if (!options.has(option) || what < 0 || what > 1) {
            return NONE;
        }
        book.readNow();
        if (what == 1) {
            return Integer.bitCount(options.beatenBy(option));
        }
        lookAt(option);
        int bar = firstBar();
        return bar == 0 && scoreAt(option) == NO_VALUE ? SCORE_LINE + 1 : bar;
    }

    public int choice() {
        int best = NONE;
        long least = 0;
        book.readNow();
        for (int i = 0; i < options.size; i++) {
            lookAt(i);
            long value = firstBar() == 0 ? scoreAt(i) : NO_VALUE;
            if (value != NO_VALUE && (best == NONE || value < least)) {
                best = i;
                least = value;
            }
        }
        return best;
    }

    public int ring() {
        book.readNow();
        return options.leastRing();
    }

    public int meet(int option) {
        if (meeting.isOn()) {
            return NONE;
        }
        int at = option == NONE ? choice() : option;
        if (!options.has(at)) {
            return NONE;
        }
        book.readNow();
        meeting.option = at;
        meeting.guests = options.whoCan(at);
        return Integer.bitCount(meeting.guests);
    }

    public boolean guest(int kin, boolean on) {
        if (!meeting.isOn() || !book.isKin(kin) || meeting.isGuest(kin) == on) {
            return false;
        }
        book.readNow();
        if (on ? !book.isAlive(kin) : meeting.paid[kin] > 0) {
            return false;
        }
        meeting.guests ^= 1 << kin;
        return true;
    }

    public int room(int beds) {
        return beds >= 1 && beds <= 5 && house.rooms < House.ROOMS_MOST ? house.addRoom(beds) : NONE;
    }

    public boolean feud(int a, int b, boolean on) {
        if (!book.isKin(a) || !book.isKin(b) || a == b || house.isFeud(a, b) == on) {
            return false;
        }
        house.turnFeud(a, b);
        return true;
    }

    public boolean price(int what, int n) {
        boolean fits = what == House.KITCHEN ? n >= 1 && n <= 4 : what >= 0 && what < House.KITCHEN && n >= 0 && n <= 99;
        if (fits) {
            house.price[what] = n;
        }
        return fits;
    }

    public int bed() {
        if (!meeting.isOn()) {
            return NONE;
        }
        book.readNow();
        int cost = house.findBedding(meeting.guests, book, meeting.roomOf);
        if (cost != NONE) {
            meeting.keepBedding(house.chosen, house.rooms);
        }
        return cost;
    }

    public int bedded(int kin) {
        return book.isKin(kin) ? meeting.roomOf[kin] : NONE;
    }

    public int table(int seats) {
        return seats >= 2 && seats <= 6 && house.tables < House.TABLES_MOST ? house.addTable(seats) : NONE;
    }

    public int meal() {
        if (!meeting.isOn() || meeting.meals >= Meeting.MEALS_MOST) {
            return NONE;
        }
        int fresh = house.findSeating(meeting.guests, book, meeting.satWith);
        if (fresh != NONE) {
            meeting.keepMeal(house.chosen, house.tables);
        }
        return fresh;
    }

    public int seated(int meal, int kin) {
        return meal >= 0 && meal < meeting.meals && book.isKin(kin) ? meeting.tableOf[meal][kin] : NONE;
    }

    public int receipt(int kin, int sum) {
        if (!meeting.isGuest(kin) || sum < 1 || sum > 99999 || meeting.paid[kin] + sum > Meeting.PAID_MOST) {
            return NONE;
        }
        meeting.paid[kin] += sum;
        return meeting.paid[kin];
    }

    public long owes(int kin, int what) {
        if (!meeting.isGuest(kin) || what < 0 || what > 2) {
            return NO_VALUE;
        }
        shareOut();
        if (what == 0) {
            return purse.weight[kin];
        }
        return what == 1 ? purse.share[kin] : purse.balance[kin];
    }

    public int settle() {
        if (!meeting.isOn()) {
            return NONE;
        }
        shareOut();
        purse.settleAll(meeting.guests);
        return purse.payments;
    }

    public int payment(int k, int what) {
        if (!meeting.isOn() || k < 0 || what < 0 || what > 2) {
            return NONE;
        }
        shareOut();
        purse.settleAll(meeting.guests);
        if (k >= purse.payments) {
            return NONE;
        }
        if (what == 0) {
            return purse.payer[k];
        }
        return what == 1 ? purse.getter[k] : purse.coins[k];
    }

    public int host() {
        book.readNow();
        return program.has(HOST_LINE) ? hostByRule() : hostByTurn();
    }

    public int end() {
        if (!meeting.isOn()) {
            return REFUSED;
        }
        int branch = host();
        if (branch != NONE) {
            hosted[branch]++;
            hostedLast[branch] = book.year;
        }
        options.size = 0;
        meeting.close();
        return branch;
    }

    public int branch(int branch, int what) throws IndexOutOfBoundsException, NoSuchElementException {
        if (branch < 0 || branch >= BRANCHES) {
            throw new IndexOutOfBoundsException("no such branch");
        }
        if (what < 0 || what > 2) {
            throw new NoSuchElementException("no such what");
        }
        if (what == 0) {
            return hosted[branch];
        }
        if (what == 1) {
            return hostedLast[branch];
        }
        book.readNow();
        return book.people(branch);
    }

    public int count(int what) {
        switch (what) {
            case 0:
                return book.kinSize;
            case 1:
                return book.noteSize;
            case 2:
                return book.year;
            case 3:
                return options.size;
            case 4:
                return flights.size;
            case 5:
                return meeting.isOn() ? Integer.bitCount(meeting.guests) : NONE;
            case 6:
                return meeting.meals;
            case 7:
                return meeting.option;
            case 8:
                return meeting.paidInAll();
            case 9:
                return program.knots;
            default:
                return NONE;
        }
    }

    private static boolean isLand(int land) {
        return land >= 0 && land < LANDS;
    }

    private static boolean isDay(int day) {
        return day >= 1 && day <= DAY_LAST;
    }

    /** Sends all who CAN to an OPTION; the flights tell then how many came and what it took. */
    private void flyTo(int option) {
        int who = options.whoCan(option);
        flights.clearWaiting();
        for (int i = 0; i < book.kinSize; i++) {
            if ((who >> i & 1) != 0) {
                flights.waiting[book.trait[Book.HOME_TRAIT][i]]++;
            }
        }
        flights.carry(options.land[option], options.day[option]);
    }

    /** Puts an OPTION before the machine; the flow is found only for rules that name the fare. */
    private void lookAt(int option) {
        int come = Integer.bitCount(options.whoCan(option));
        int fare = NONE;
        if (program.names(FARE)) {
            flyTo(option);
            fare = flights.brought == come ? flights.prices : NONE;
        }
        machine.lookAtOption(option, fare, come);
    }

    /** SCORE of the OPTION that the machine looks at. */
    private long scoreAt(int option) {
        return program.has(SCORE_LINE) ? machine.value(program, SCORE_LINE) : options.regretInAll(option);
    }

    /** The bar, from 1 on, that puts the OPTION out that the machine looks at; 0 if none does. */
    private int firstBar() {
        for (int i = 0; i < BARS_MOST; i++) {
            // an ERROR is no 0 either
            if (program.has(i) && machine.value(program, i) != 0) {
                return i + 1;
            }
        }
        return 0;
    }

    private void shareOut() {
        book.readNow();
        lookAt(meeting.option);
        for (int i = 0; i < KIN_MOST; i++) {
            purse.weight[i] = meeting.isGuest(i) ? weightOf(i) : 0;
        }
        purse.divide(meeting.guests, meeting.paid, meeting.paidInAll());
    }

    private long weightOf(int kin) {
        if (!program.has(PAY_LINE)) {
            return book.trait[Book.MEANS_TRAIT][kin];
        }
        machine.payer = kin;
        // an ERROR lies below 0 and weighs nothing, too
        return Math.max(0, Math.min(WEIGHT_MOST, machine.value(program, PAY_LINE)));
    }

    private int hostByRule() {
        int best = NONE;
        long greatest = 0;
        for (int i = 0; i < BRANCHES; i++) {
            int people = book.people(i);
            if (people > 0) {
                machine.lookAtBranch(i, hosted[i], hostedLast[i], people);
                long value = machine.value(program, HOST_LINE);
                if (value != NO_VALUE && (best == NONE || value > greatest)) {
                    best = i;
                    greatest = value;
                }
            }
        }
        return best;
    }

    private int hostByTurn() {
        int best = NONE;
        for (int i = 0; i < BRANCHES; i++) {
            if (book.people(i) > 0 && (best == NONE || isBeforeInTurn(i, best))) {
                best = i;
            }
        }
        return best;
    }

    private boolean isBeforeInTurn(int a, int b) {
        return hosted[a] < hosted[b] || (hosted[a] == hosted[b] && hostedLast[a] < hostedLast[b]);
    }

    /** KIN and NOTES, and what the notes tell as known by some of them. */
    private static final class Book {
        static final int NOTES_MOST = 100;
        static final int HOME_TRAIT = 0;
        static final int BRANCH_TRAIT = 1;
        static final int MEANS_TRAIT = 2;
        static final int DIET_TRAIT = 3;
        static final int SNORES_TRAIT = 4;
        static final int[] TRAIT_BOUNDS = {6, 4, 100, 4, 2};
        static final int PARENT = 0;
        static final int COUPLED = 1;
        static final int PARTED = 2;
        static final int BORN = 3;
        static final int DIED = 4;
        static final int STRIKE = 5;

        final int[][] trait = new int[5][KIN_MOST];
        int kinSize;
        int year;
        int noteSize;
        final int[] sort = new int[NOTES_MOST];
        final int[] noteA = new int[NOTES_MOST];
        final int[] noteB = new int[NOTES_MOST];
        final int[] noteC = new int[NOTES_MOST];
        /** Of the latest reading: how many notes were known, which count (1), and what they tell. */
        int known;
        final int[] counts = new int[NOTES_MOST];
        final int[] born = new int[KIN_MOST];
        final int[] died = new int[KIN_MOST];
        int alive;

        boolean isKin(int k) {
            return k >= 0 && k < kinSize;
        }

        static boolean isYear(int y) {
            return y >= 0 && y <= YEAR_LAST;
        }

        boolean isKnown(int n) {
            return n >= 0 && n <= noteSize;
        }

        boolean traitFits(int what, int v) {
            return what >= 0 && what < TRAIT_BOUNDS.length && v >= 0 && v < TRAIT_BOUNDS[what];
        }

        int addKin(int home, int branch, int means, int diet, int snores) {
            trait[HOME_TRAIT][kinSize] = home;
            trait[BRANCH_TRAIT][kinSize] = branch;
            trait[MEANS_TRAIT][kinSize] = means;
            trait[DIET_TRAIT][kinSize] = diet;
            trait[SNORES_TRAIT][kinSize] = snores;
            kinSize++;
            return kinSize - 1;
        }

        boolean noteFits(int newSort, int a, int b, int c) {
            if (newSort < PARENT || newSort > DIED || !isKin(a)) {
                return false;
            }
            if (newSort == PARENT) {
                return isKin(b) && b < a && (c == 0 || c == 1);
            }
            boolean ofTwo = newSort == COUPLED || newSort == PARTED;
            return isYear(c) && (!ofTwo || (isKin(b) && a != b));
        }

        int addNote(int newSort, int a, int b, int c) {
            if (noteSize >= NOTES_MOST) {
                return NONE;
            }
            sort[noteSize] = newSort;
            noteA[noteSize] = a;
            noteB[noteSize] = b;
            noteC[noteSize] = c;
            noteSize++;
            return noteSize - 1;
        }

        /** Reads the book as known by its first n notes. */
        void read(int n) {
            known = Math.min(n, noteSize);
            strikeOut();
            Arrays.fill(born, NONE);
            Arrays.fill(died, NONE);
            for (int i = 0; i < known; i++) {
                if (counts[i] != 0 && sort[i] == BORN) {
                    born[noteA[i]] = noteC[i];
                } else if (counts[i] != 0 && sort[i] == DIED) {
                    died[noteA[i]] = noteC[i];
                }
            }
        }

        /** A strike stands behind what it strikes: from the last one on, each is judged before it judges. */
        private void strikeOut() {
            for (int i = 0; i < known; i++) {
                counts[i] = 1;
            }
            for (int i = known - 1; i >= 0; i--) {
                if (counts[i] != 0 && sort[i] == STRIKE) {
                    counts[noteA[i]] = 0;
                }
            }
        }

        /** Reads the whole book, and who is alive in the year. */
        void readNow() {
            read(noteSize);
            alive = 0;
            for (int i = 0; i < kinSize; i++) {
                if (livesIn(i, year)) {
                    alive |= 1 << i;
                }
            }
        }

        boolean isAlive(int k) {
            return k >= 0 && k < KIN_MOST && (alive >> k & 1) != 0;
        }

        boolean livesIn(int k, int y) {
            return born[k] <= y && (died[k] == NONE || died[k] > y);
        }

        int ageIn(int k, int y) {
            return born[k] != NONE && born[k] <= y ? y - born[k] : NONE;
        }

        boolean coupleIn(int a, int b, int y) {
            int latest = NONE;
            for (int i = 0; i < known; i++) {
                boolean tells = counts[i] != 0 && (sort[i] == COUPLED || sort[i] == PARTED) && noteC[i] <= y && isOf(i, a, b);
                if (tells && (latest == NONE || noteC[i] >= noteC[latest])) {
                    latest = i;
                }
            }
            return latest != NONE && sort[latest] == COUPLED;
        }

        private boolean isOf(int i, int a, int b) {
            return (noteA[i] == a && noteB[i] == b) || (noteA[i] == b && noteB[i] == a);
        }

        /** How many of a BRANCH are alive now. */
        int people(int branch) {
            return Integer.bitCount(alive & withTrait(BRANCH_TRAIT, branch));
        }

        int withTrait(int what, int v) {
            int set = 0;
            for (int i = 0; i < kinSize; i++) {
                if (trait[what][i] == v) {
                    set |= 1 << i;
                }
            }
            return set;
        }
    }

    /** Parents for sure and maybe, the worlds they make, and how near two are in them. */
    private static final class Ancestry {
        static final int MAYBES_MOST = 6;

        final int[] sure = new int[KIN_MOST];
        final int[] maybeA = new int[MAYBES_MOST];
        final int[] maybeB = new int[MAYBES_MOST];
        int maybes;
        /** Of the world at hand: parents as bits, and steps up from the two that are asked of. */
        final int[] parents = new int[KIN_MOST];
        final int[] stepsA = new int[KIN_MOST];
        final int[] stepsB = new int[KIN_MOST];
        int up;
        int down;
        int alike;

        /** Takes what the book told by its latest reading. */
        void read(Book book) {
            Arrays.fill(sure, 0);
            maybes = 0;
            for (int i = 0; i < book.known; i++) {
                if (tells(book, i, 0) && Integer.bitCount(sure[book.noteA[i]]) < 2) {
                    sure[book.noteA[i]] |= 1 << book.noteB[i];
                }
            }
            for (int i = 0; i < book.known; i++) {
                if (tells(book, i, 1)) {
                    addMaybe(book.noteA[i], book.noteB[i]);
                }
            }
        }

        private static boolean tells(Book book, int i, int c) {
            return book.counts[i] != 0 && book.sort[i] == Book.PARENT && book.noteC[i] == c;
        }

        private void addMaybe(int a, int b) {
            if (maybes >= MAYBES_MOST || (sure[a] >> b & 1) != 0) {
                return;
            }
            for (int i = 0; i < maybes; i++) {
                if (maybeA[i] == a && maybeB[i] == b) {
                    return;
                }
            }
            maybeA[maybes] = a;
            maybeB[maybes] = b;
            maybes++;
        }

        /** Makes a set of maybes true: false if one has more than two parents then. */
        private boolean enter(int world) {
            System.arraycopy(sure, 0, parents, 0, KIN_MOST);
            for (int i = 0; i < maybes; i++) {
                if ((world >> i & 1) != 0) {
                    parents[maybeA[i]] |= 1 << maybeB[i];
                    if (Integer.bitCount(parents[maybeA[i]]) > 2) {
                        return false;
                    }
                }
            }
            return true;
        }

        /** The least steps by which each is above one, NONE if it isn't. */
        private void climb(int from, int[] steps) {
            Arrays.fill(steps, NONE);
            int level = 1 << from;
            // parents have lesser numbers: no way up is longer than the kin are many
            for (int n = 0; n < KIN_MOST; n++) {
                int above = 0;
                for (int k = 0; k < KIN_MOST; k++) {
                    if ((level >> k & 1) != 0) {
                        above |= parents[k];
                        if (steps[k] == NONE) {
                            steps[k] = n;
                        }
                    }
                }
                level = above;
            }
        }

        /** Finds NEAR of two in the world at hand: alike is 0 if none is above both. */
        private void findNear(int a, int b) {
            climb(a, stepsA);
            climb(b, stepsB);
            alike = 0;
            for (int x = 0; x < KIN_MOST; x++) {
                if (stepsA[x] != NONE && stepsB[x] != NONE) {
                    weigh(stepsA[x], stepsB[x]);
                }
            }
        }

        private void weigh(int u, int d) {
            int better = u + d - up - down;
            if (alike == 0 || better < 0 || (better == 0 && u < up)) {
                up = u;
                down = d;
                alike = 1;
            } else if (u == up && d == down) {
                alike++;
            }
        }

        int sureNear(int a, int b, int what) {
            enter(0);
            findNear(a, b);
            if (what == 2) {
                return alike;
            }
            if (alike == 0) {
                return NONE;
            }
            return what == 0 ? up : down;
        }

        /** Over all worlds, what 3: how many, 4: in how many one is above both, 5: the least steps together. */
        int overWorlds(int a, int b, int what) {
            int worlds = 0;
            int joined = 0;
            int least = NONE;
            for (int world = 0; world < 1 << maybes; world++) {
                if (enter(world)) {
                    worlds++;
                    findNear(a, b);
                    if (alike > 0) {
                        joined++;
                        least = least == NONE ? up + down : Math.min(least, up + down);
                    }
                }
            }
            if (what == 3) {
                return worlds;
            }
            return what == 4 ? joined : least;
        }
    }

    /** The fed bytes, and the tokens of the text at their front. */
    private static final class Tape {
        static final int LENGTH_MOST = 600;
        static final int NUMBER_MOST = 999999;
        static final String SIGNS = ";()+-*/%<=>";
        static final String WORDS = "score bar pay host or and not if sum max min count land day fare come home branch age means can regret miles times last people mine ";

        final int[] bytes = new int[LENGTH_MOST];
        int length;
        int textLength;
        int next;
        /** The latest token, where it begins, and its number if it is one (too great ones are cut short). */
        int token;
        int place;
        int number;

        void put(int four) {
            for (int shift = 24; shift >= 0; shift -= 8) {
                if (length < LENGTH_MOST) {
                    bytes[length] = four >>> shift & 255;
                    length++;
                }
            }
        }

        void begin(int n) {
            textLength = Math.min(n, length);
            next = 0;
        }

        void advance() {
            while (next < textLength && (bytes[next] == 32 || bytes[next] == 10)) {
                next++;
            }
            place = next;
            if (next >= textLength) {
                token = STOP;
            } else if (isLetter(byteAt(next))) {
                readWord();
            } else if (isDigit(byteAt(next))) {
                readNumber();
            } else {
                readSign();
            }
        }

        private int byteAt(int i) {
            return i >= 0 && i < textLength ? bytes[i] : NONE;
        }

        private static boolean isLetter(int c) {
            return c >= 'a' && c <= 'z';
        }

        private static boolean isDigit(int c) {
            return c >= '0' && c <= '9';
        }

        private void readNumber() {
            token = NUMBER;
            number = 0;
            while (next < textLength && isDigit(bytes[next])) {
                number = Math.min(number * 10 + bytes[next] - '0', NUMBER_MOST + 1);
                next++;
            }
        }

        private void readSign() {
            int sign = SIGNS.indexOf((char) bytes[next]);
            int behind = byteAt(next + 1);
            token = sign < 0 ? BAD : SEMICOLON + sign;
            next++;
            if (token == LESS && behind == '=') {
                token = LESS_SAME;
                next++;
            } else if (token == MORE && behind == '=') {
                token = MORE_SAME;
                next++;
            } else if (token == LESS && behind == '>') {
                token = UNLIKE;
                next++;
            }
        }

        private void readWord() {
            while (next < textLength && isLetter(bytes[next])) {
                next++;
            }
            token = BAD;
            int word = SCORE;
            int at = place;
            for (int i = 0; i < WORDS.length() && token == BAD; i++) {
                char c = WORDS.charAt(i);
                if (c != ' ') {
                    // past the end of the word it can't be this one any more
                    at = at < next && bytes[at] == c ? at + 1 : next + 1;
                } else if (at == next) {
                    token = word;
                } else {
                    word++;
                    at = place;
                }
            }
        }
    }

    /** RULES as steps for the machine: each LINE ends with a STOP. */
    private static final class Program {
        static final int KNOTS_MOST = 120;
        /** A KNOT makes three steps at most, a LINE one more. */
        static final int STEPS_MOST = 3 * KNOTS_MOST + LINES_MOST;

        final int[] step = new int[STEPS_MOST];
        final int[] argument = new int[STEPS_MOST];
        /** Of a HEAP: where its E behind if begins (NONE without), and what comes behind it. */
        final int[] test = new int[STEPS_MOST];
        final int[] exit = new int[STEPS_MOST];
        int size;
        final int[] start = new int[LINES_MOST];
        int lines;
        int bars;
        int knots;
        int named;

        Program() {
            Arrays.fill(start, NONE);
        }

        void clear() {
            Arrays.fill(start, NONE);
            size = 0;
            lines = 0;
            bars = 0;
            knots = 0;
            named = 0;
        }

        boolean has(int line) {
            return start[line] != NONE;
        }

        boolean names(int name) {
            return (named >> name - LAND & 1) != 0;
        }

        void begin(int line) {
            start[line] = size;
            lines++;
        }

        void emit(int newStep, int newArgument) {
            if (size < STEPS_MOST) {
                step[size] = newStep;
                argument[size] = newArgument;
                test[size] = NONE;
                exit[size] = NONE;
                size++;
            }
        }
    }

    /** Reads a text token by token into a Program, or finds its first FAULT. */
    private static final class Parser {
        static final int OPEN_MOST = 8;
        static final int WAITING_MOST = Program.KNOTS_MOST + OPEN_MOST;
        static final int WRONG_TOKEN = 1;
        static final int TOO_MUCH = 2;
        static final int TOLD_ALREADY = 3;
        static final int WRONG_NAME = 4;
        /** What has to come next. */
        static final int AT_LINE = 0;
        static final int AT_OPERAND = 1;
        static final int AT_OPERATOR = 2;
        static final int AT_HEAP_OPENING = 3;
        /** Names as bits from LAND on. */
        static final int OPTION_NAMES = (1 << HOME - LAND) - 1;
        static final int KIN_NAMES = (1 << TIMES - LAND) - 1 - OPTION_NAMES;
        static final int BRANCH_NAMES = (1 << MINE - LAND) - 1 - OPTION_NAMES - KIN_NAMES;
        static final int HOST_KIN_NAMES = 1 << HOME - LAND | 1 << BRANCH - LAND | 1 << AGE - LAND | 1 << MEANS - LAND | 1 << MINE - LAND;

        final Tape tape;
        Program program;
        int fault;
        int place = NONE;
        int state;
        int line;
        /** A not stands only where no sign waits for its right side. */
        boolean notFits;
        /** Signs and brackets that wait for what is behind them, each with the step it has to mend. */
        final int[] waiting = new int[WAITING_MOST];
        final int[] mend = new int[WAITING_MOST];
        int depth;
        int opened;
        /** The HEAP that is open: the step it begins with, its word, how many brackets are open with its own (0 without). */
        int heapStart;
        int heapWord;
        int heapOpened;
        boolean heapTested;

        Parser(Tape newTape) {
            tape = newTape;
        }

        void parse(int n, Program into) {
            program = into;
            program.clear();
            tape.begin(n);
            fault = 0;
            place = NONE;
            state = AT_LINE;
            depth = 0;
            opened = 0;
            heapOpened = 0;
            // each token takes a byte at least
            for (int i = 0; i <= n && fault == 0; i++) {
                tape.advance();
                if (tape.token == STOP) {
                    break;
                }
                takeToken(tape.token);
            }
            if (fault == 0 && state != AT_LINE) {
                fail(WRONG_TOKEN);
            }
        }

        private void fail(int newFault) {
            fault = newFault;
            place = tape.place;
        }

        private void takeToken(int token) {
            switch (state) {
                case AT_LINE:
                    takeLineWord(token);
                    break;
                case AT_OPERAND:
                    takeOperand(token);
                    break;
                case AT_OPERATOR:
                    takeOperator(token);
                    break;
                default:
                    takeHeapOpening(token);
                    break;
            }
        }

        private void takeLineWord(int token) {
            if (token < SCORE || token > HOST) {
                fail(WRONG_TOKEN);
            } else if (token == BAR && program.bars >= BARS_MOST) {
                fail(TOO_MUCH);
            } else if (token != BAR && program.has(lineOf(token))) {
                fail(TOLD_ALREADY);
            } else {
                line = token;
                program.begin(lineOf(token));
                program.bars += token == BAR ? 1 : 0;
                expectOperand(true);
            }
        }

        private int lineOf(int token) {
            if (token == BAR) {
                return program.bars;
            }
            if (token == SCORE) {
                return SCORE_LINE;
            }
            return token == PAY ? PAY_LINE : HOST_LINE;
        }

        private void expectOperand(boolean withNot) {
            state = AT_OPERAND;
            notFits = withNot;
        }

        private void takeOperand(int token) {
            if (token == NUMBER) {
                takeNumber();
            } else if (token >= LAND) {
                takeName(token);
            } else if (token >= SUM) {
                takeHeapWord(token);
            } else if (token == OPEN) {
                openBracket(NONE);
            } else if (token == MINUS) {
                takeAhead(NEGATE, false);
            } else if (token == NOT && notFits) {
                takeAhead(NOT, true);
            } else {
                fail(WRONG_TOKEN);
            }
        }

        /** Counts a KNOT: false, with the FAULT, if it is one too many. */
        private boolean tieKnot() {
            if (program.knots >= Program.KNOTS_MOST) {
                fail(TOO_MUCH);
                return false;
            }
            program.knots++;
            return true;
        }

        private void takeNumber() {
            if (tape.number > Tape.NUMBER_MOST) {
                fail(TOO_MUCH);
            } else if (tieKnot()) {
                program.emit(NUMBER, tape.number);
                state = AT_OPERATOR;
            }
        }

        private void takeName(int token) {
            if (!tieKnot()) {
                return;
            }
            int bit = 1 << token - LAND;
            if ((namesHere() & bit) == 0) {
                fail(WRONG_NAME);
                return;
            }
            program.named |= bit;
            program.emit(NAME, token);
            state = AT_OPERATOR;
        }

        private int namesHere() {
            boolean inHeap = heapOpened > 0;
            if (line == HOST) {
                return inHeap ? BRANCH_NAMES | HOST_KIN_NAMES : BRANCH_NAMES;
            }
            return inHeap || line == PAY ? OPTION_NAMES | KIN_NAMES : OPTION_NAMES;
        }

        private void takeHeapWord(int token) {
            if (!tieKnot()) {
                return;
            }
            if (heapOpened > 0) {
                fail(WRONG_NAME);
                return;
            }
            heapStart = program.size;
            heapWord = token;
            heapTested = false;
            program.emit(HEAP, token);
            state = AT_HEAP_OPENING;
        }

        private void takeHeapOpening(int token) {
            if (token != OPEN) {
                fail(WRONG_TOKEN);
            } else if (openBracket(heapStart)) {
                heapOpened = opened;
            }
        }

        private boolean openBracket(int step) {
            if (opened >= OPEN_MOST) {
                fail(TOO_MUCH);
                return false;
            }
            opened++;
            keepWaiting(OPEN, step);
            expectOperand(true);
            return true;
        }

        private void takeAhead(int step, boolean withNot) {
            if (tieKnot()) {
                keepWaiting(step, NONE);
                expectOperand(withNot);
            }
        }

        private void keepWaiting(int step, int mended) {
            if (depth < WAITING_MOST) {
                waiting[depth] = step;
                mend[depth] = mended;
                depth++;
            }
        }

        private void takeOperator(int token) {
            if (token >= PLUS && token <= UNLIKE) {
                takeSign(token);
            } else if (token == AND || token == OR) {
                takeJoin(token);
            } else if (token == CLOSE && opened > 0) {
                closeBracket();
            } else if (token == IF && heapOpened > 0 && heapOpened == opened && heapWord != COUNT && !heapTested) {
                takeIf();
            } else if (token == SEMICOLON && opened == 0) {
                release(1);
                program.emit(STOP, 0);
                state = AT_LINE;
            } else {
                fail(WRONG_TOKEN);
            }
        }

        /** How tightly a sign binds; a bracket holds all that is outside it. */
        private static int strength(int step) {
            switch (step) {
                case OPEN:
                    return 0;
                case OR:
                    return 1;
                case AND:
                    return 2;
                case NOT:
                    return 3;
                case PLUS:
                case MINUS:
                    return 5;
                case STAR:
                case SLASH:
                case PERCENT:
                    return 6;
                case NEGATE:
                    return 7;
                default:
                    return 4;
            }
        }

        private void takeSign(int token) {
            int strength = strength(token);
            boolean compares = strength == 4;
            release(compares ? 5 : strength);
            if (compares && depth > 0 && strength(waiting[depth - 1]) == 4) {
                fail(WRONG_TOKEN);
            } else if (tieKnot()) {
                keepWaiting(token, NONE);
                expectOperand(false);
            }
        }

        private void takeJoin(int token) {
            if (tieKnot()) {
                release(strength(token));
                keepWaiting(token, program.size);
                program.emit(token, NONE);
                expectOperand(true);
            }
        }

        /** Puts out all on top that wait and bind at least so tightly. */
        private void release(int least) {
            for (int i = depth; i > 0 && strength(waiting[i - 1]) >= least; i--) {
                depth = i - 1;
                int step = waiting[depth];
                if (step == AND || step == OR) {
                    program.emit(TRUTH, 0);
                    program.argument[mend[depth]] = program.size;
                } else {
                    program.emit(step, 0);
                }
            }
        }

        private void takeIf() {
            release(1);
            program.emit(TAKE, 0);
            program.test[heapStart] = program.size;
            heapTested = true;
            expectOperand(true);
        }

        private void closeBracket() {
            release(1);
            depth = Math.max(0, depth - 1);
            if (heapOpened == opened) {
                program.emit(heapTested ? TEST : TAKE, 0);
                program.exit[heapStart] = program.size;
                heapOpened = 0;
            }
            opened--;
            state = AT_OPERATOR;
        }
    }

    /** Works out a LINE of a Program for the OPTION, the payer or the BRANCH it looks at. */
    private static final class Machine {
        static final long VALUE_MOST = 1000000000000L;
        /** Above what a LINE can need: each of its steps once for each of KIN. */
        static final int TURNS_MOST = 100000;

        final Book book;
        final Options options;
        int payer = NONE;
        /** The values of the names from LAND on and from TIMES on, and those of each of KIN from HOME on. */
        final long[] optionValues = new long[HOME - LAND];
        final long[] branchValues = new long[MINE - TIMES];
        final int[][] kinValues = new int[MINE - HOME + 1][KIN_MOST];
        Program program;
        final long[] stack = new long[Program.KNOTS_MOST + 1];
        int top;
        int at;
        boolean failed;
        boolean stopped;
        /** The HEAP at work: its step, its kin at hand (NONE without a HEAP), what it has and of how many. */
        int heap;
        int heapKin;
        long heapValue;
        int heapTaken;

        Machine(Book newBook, Options newOptions) {
            book = newBook;
            options = newOptions;
        }

        void lookAtOption(int option, int fare, int come) {
            int land = options.land[option];
            optionValues[0] = land;
            optionValues[DAY - LAND] = options.day[option];
            optionValues[FARE - LAND] = fare;
            optionValues[COME - LAND] = come;
            lookAtKin();
            for (int i = 0; i < book.kinSize; i++) {
                int regret = options.regretOf(option, i);
                kinValues[CAN - HOME][i] = regret < CANNOT ? 1 : 0;
                kinValues[REGRET - HOME][i] = regret;
                kinValues[MILES - HOME][i] = options.miles[book.trait[Book.HOME_TRAIT][i]][land];
            }
        }

        void lookAtBranch(int branch, int times, int last, int people) {
            branchValues[0] = times;
            branchValues[LAST - TIMES] = last;
            branchValues[PEOPLE - TIMES] = people;
            lookAtKin();
            for (int i = 0; i < book.kinSize; i++) {
                kinValues[MINE - HOME][i] = book.trait[Book.BRANCH_TRAIT][i] == branch ? 1 : 0;
            }
        }

        private void lookAtKin() {
            payer = NONE;
            for (int i = 0; i < book.kinSize; i++) {
                kinValues[0][i] = book.trait[Book.HOME_TRAIT][i];
                kinValues[BRANCH - HOME][i] = book.trait[Book.BRANCH_TRAIT][i];
                kinValues[AGE - HOME][i] = book.ageIn(i, book.year);
                kinValues[MEANS - HOME][i] = book.trait[Book.MEANS_TRAIT][i];
            }
        }

        /** VALUE of a LINE that is there; NO_VALUE for an ERROR. */
        long value(Program newProgram, int line) {
            program = newProgram;
            at = newProgram.start[line];
            top = 0;
            failed = false;
            stopped = false;
            heapKin = NONE;
            for (int i = 0; i < TURNS_MOST && !failed && !stopped; i++) {
                if (at >= 0 && at < program.size) {
                    doStep(program.step[at], program.argument[at]);
                } else {
                    failed = true;
                }
            }
            return failed || !stopped || top != 1 ? NO_VALUE : stack[0];
        }

        private void doStep(int step, int argument) {
            at++;
            switch (step) {
                case STOP:
                    stopped = true;
                    break;
                case NUMBER:
                    push(argument);
                    break;
                case NAME:
                    push(nameValue(argument));
                    break;
                case NEGATE:
                    push(-pop());
                    break;
                case NOT:
                    push(pop() == 0 ? 1 : 0);
                    break;
                case TRUTH:
                    push(pop() != 0 ? 1 : 0);
                    break;
                case AND:
                case OR:
                    joinLeft(step == OR, argument);
                    break;
                case HEAP:
                    beginHeap(at - 1);
                    goOnWithHeap();
                    break;
                case TAKE:
                    takeIntoHeap(pop());
                    goOnWithHeap();
                    break;
                case TEST:
                    if (pop() != 0) {
                        at = heap + 1;
                    } else {
                        goOnWithHeap();
                    }
                    break;
                default:
                    doSign(step);
                    break;
            }
        }

        private void push(long v) {
            if (top < stack.length) {
                stack[top] = v;
                top++;
            } else {
                failed = true;
            }
        }

        private long pop() {
            if (top == 0) {
                failed = true;
                return 0;
            }
            top--;
            return stack[top];
        }

        /** If the left side tells, its truth is the whole's and the right side is left out. */
        private void joinLeft(boolean tellingTruth, int behind) {
            boolean truth = pop() != 0;
            if (truth == tellingTruth) {
                push(truth ? 1 : 0);
                at = behind;
            }
        }

        private void doSign(int step) {
            long right = pop();
            long left = pop();
            switch (step) {
                case PLUS:
                    push(within(left + right));
                    break;
                case MINUS:
                    push(within(left - right));
                    break;
                case STAR:
                    push(product(left, right));
                    break;
                case SLASH:
                case PERCENT:
                    push(quotient(step, left, right));
                    break;
                default:
                    push(compares(step, left, right) ? 1 : 0);
                    break;
            }
        }

        private long within(long v) {
            failed = failed || v > VALUE_MOST || v < -VALUE_MOST;
            return v;
        }

        /** The bound is asked before the product is made, which could be too long for a long. */
        private long product(long left, long right) {
            long size = Math.abs(left);
            if (size != 0 && Math.abs(right) > VALUE_MOST / size) {
                failed = true;
                return 0;
            }
            return left * right;
        }

        private long quotient(int step, long left, long right) {
            if (right == 0) {
                failed = true;
                return 0;
            }
            return step == SLASH ? left / right : left % right;
        }

        private static boolean compares(int step, long left, long right) {
            switch (step) {
                case LESS:
                    return left < right;
                case LESS_SAME:
                    return left <= right;
                case SAME:
                    return left == right;
                case UNLIKE:
                    return left != right;
                case MORE:
                    return left > right;
                default:
                    return left >= right;
            }
        }

        private void beginHeap(int step) {
            heap = step;
            heapKin = NONE;
            heapValue = 0;
            heapTaken = 0;
        }

        /** To the next one alive; behind the last one the HEAP has its value. */
        private void goOnWithHeap() {
            int next = heapKin + 1;
            while (next < book.kinSize && (book.alive >> next & 1) == 0) {
                next++;
            }
            if (next < book.kinSize) {
                heapKin = next;
                at = program.test[heap] == NONE ? heap + 1 : program.test[heap];
            } else {
                heapKin = NONE;
                at = program.exit[heap];
                push(heapValue);
            }
        }

        private void takeIntoHeap(long v) {
            int word = program.argument[heap];
            if (word == SUM) {
                heapValue = within(heapValue + v);
            } else if (word == COUNT) {
                heapValue += v != 0 ? 1 : 0;
            } else if (heapTaken == 0) {
                heapValue = v;
            } else {
                heapValue = word == MAX ? Math.max(heapValue, v) : Math.min(heapValue, v);
            }
            heapTaken++;
        }

        private long nameValue(int name) {
            if (name < HOME) {
                return optionValues[name - LAND];
            }
            if (name >= TIMES && name <= PEOPLE) {
                return branchValues[name - TIMES];
            }
            int kin = heapKin == NONE ? payer : heapKin;
            return book.isKin(kin) ? kinValues[name - HOME][kin] : 0;
        }
    }

    /** OPTIONS, what each regrets of them, and MILES. */
    private static final class Options {
        static final int MOST = 6;

        final Book book;
        int size;
        final int[] land = new int[MOST];
        final int[] day = new int[MOST];
        final int[][] regrets = new int[MOST][KIN_MOST];
        final int[][] miles = new int[LANDS][LANDS];
        /** For each OPTION those it beats, as bits. */
        final int[] beaten = new int[MOST];

        Options(Book newBook) {
            book = newBook;
        }

        boolean has(int option) {
            return option >= 0 && option < size;
        }

        int addOption(int newLand, int newDay) {
            land[size] = newLand;
            day[size] = newDay;
            Arrays.fill(regrets[size], CANNOT);
            size++;
            return size - 1;
        }

        void setMiles(int a, int b, int n) {
            miles[a][b] = n;
            miles[b][a] = n;
        }

        int regretOf(int option, int kin) {
            return book.isAlive(kin) ? regrets[option][kin] : CANNOT;
        }

        int whoCan(int option) {
            int who = 0;
            for (int i = 0; i < book.kinSize; i++) {
                if (regretOf(option, i) < CANNOT) {
                    who |= 1 << i;
                }
            }
            return who;
        }

        long regretInAll(int option) {
            long sum = 0;
            for (int i = 0; i < book.kinSize; i++) {
                sum += book.isAlive(i) ? regrets[option][i] : 0;
            }
            return sum;
        }

        private boolean beats(int a, int b) {
            int lead = 0;
            for (int i = 0; i < book.kinSize; i++) {
                // those who aren't alive regret both alike
                lead += Integer.compare(regretOf(b, i), regretOf(a, i));
            }
            return lead > 0;
        }

        int beatenBy(int option) {
            int set = 0;
            for (int i = 0; i < size; i++) {
                if (beats(option, i)) {
                    set |= 1 << i;
                }
            }
            return set;
        }

        /** The least set that beats all outside it: such sets lie one in another, so that the smallest is one. */
        int leastRing() {
            int all = (1 << size) - 1;
            int ring = all;
            for (int i = 0; i < size; i++) {
                beaten[i] = beatenBy(i);
            }
            for (int set = 1; set < all; set++) {
                if (Integer.bitCount(set) < Integer.bitCount(ring) && beatsRest(set, all)) {
                    ring = set;
                }
            }
            return ring;
        }

        private boolean beatsRest(int set, int all) {
            for (int i = 0; i < size; i++) {
                if ((set >> i & 1) != 0 && (set | beaten[i]) != all) {
                    return false;
                }
            }
            return true;
        }
    }

    /** FLIGHTS, and the cheapest way to bring the most along them. */
    private static final class Flights {
        static final int MOST = 14;
        static final int FAR = 1000000;

        int size;
        final int[] from = new int[MOST];
        final int[] to = new int[MOST];
        final int[] day = new int[MOST];
        final int[] seats = new int[MOST];
        final int[] price = new int[MOST];
        /** Those who haven't gone yet, by their LANDS. */
        final int[] waiting = new int[LANDS];
        final int[] taken = new int[MOST];
        /** The cheapest way to each LAND for one more, and its last flight (MOST more: a seat given back). */
        final int[] cost = new int[LANDS];
        final int[] via = new int[LANDS];
        int brought;
        int prices;

        int addFlight(int newFrom, int newTo, int newDay, int newSeats, int newPrice) {
            from[size] = newFrom;
            to[size] = newTo;
            day[size] = newDay;
            seats[size] = newSeats;
            price[size] = newPrice;
            size++;
            return size - 1;
        }

        void clearWaiting() {
            Arrays.fill(waiting, 0);
        }

        /** Brings all who wait, one by one, each on the way that then costs least: so the sum is least for each number. */
        void carry(int goal, int lastDay) {
            Arrays.fill(taken, 0);
            brought = waiting[goal];
            prices = 0;
            waiting[goal] = 0;
            for (int i = 0; i < KIN_MOST && findWay(goal, lastDay); i++) {
                prices += cost[goal];
                brought++;
                goAlong(goal);
            }
        }

        private boolean findWay(int goal, int lastDay) {
            for (int i = 0; i < LANDS; i++) {
                cost[i] = waiting[i] > 0 ? 0 : FAR;
                via[i] = NONE;
            }
            boolean better = true;
            for (int round = 0; round < LANDS && better; round++) {
                better = false;
                for (int i = 0; i < size; i++) {
                    if (day[i] <= lastDay && tryFlight(i)) {
                        better = true;
                    }
                }
            }
            return cost[goal] < FAR;
        }

        private boolean tryFlight(int i) {
            int start = cost[from[i]];
            int goal = cost[to[i]];
            if (start < FAR && taken[i] < seats[i] && start + price[i] < goal) {
                cost[to[i]] = start + price[i];
                via[to[i]] = i;
                return true;
            }
            if (goal < FAR && taken[i] > 0 && goal - price[i] < start) {
                cost[from[i]] = goal - price[i];
                via[from[i]] = MOST + i;
                return true;
            }
            return false;
        }

        private void goAlong(int goal) {
            int at = goal;
            for (int i = 0; i < LANDS && via[at] != NONE; i++) {
                if (via[at] < MOST) {
                    taken[via[at]]++;
                    at = from[via[at]];
                } else {
                    taken[via[at] - MOST]--;
                    at = to[via[at] - MOST];
                }
            }
            waiting[at]--;
        }
    }

    /** ROOMS, TABLES, FEUDS and PRICES, and the search for who is put where. */
    private static final class House {
        static final int ROOMS_MOST = 4;
        static final int TABLES_MOST = 3;
        static final int SNORE_PRICE = 0;
        static final int COUPLE_PRICE = 1;
        static final int MOVE_PRICE = 2;
        static final int KITCHEN = 3;
        /** Far above what can be paid; what costs more than half of it can't be. */
        static final int FORBIDDEN = 1000000;
        static final int PAID_MOST = FORBIDDEN / 2;

        int rooms;
        final int[] beds = new int[ROOMS_MOST];
        int tables;
        final int[] seats = new int[TABLES_MOST];
        final int[] feuds = new int[KIN_MOST];
        final int[] price = {3, 5, 1, 2};
        /** For each of KIN those with whom it makes a couple, or would sit for the first time. */
        final int[] partners = new int[KIN_MOST];
        /** For each place those who move if they come there. */
        final int[] movers = new int[ROOMS_MOST];
        /** What a set costs wherever it is put, and what it costs at the place at hand. */
        final int[] setCost = new int[SETS];
        final int[] placeCost = new int[SETS];
        /** For each place and set the least for which the set goes into this place and those behind. */
        final int[][] least = new int[ROOMS_MOST][SETS];
        /** The sets that were found, by places. */
        final int[] chosen = new int[ROOMS_MOST];

        int addRoom(int newBeds) {
            beds[rooms] = newBeds;
            rooms++;
            return rooms - 1;
        }

        int addTable(int newSeats) {
            seats[tables] = newSeats;
            tables++;
            return tables - 1;
        }

        boolean isFeud(int a, int b) {
            return (feuds[a] >> b & 1) != 0;
        }

        void turnFeud(int a, int b) {
            feuds[a] ^= 1 << b;
            feuds[b] ^= 1 << a;
        }

        /** Finds the BEDDING into chosen: what it costs, or NONE. */
        int findBedding(int guests, Book book, int[] roomOf) {
            int couples = pairCouples(guests, book);
            int snorers = book.withTrait(Book.SNORES_TRAIT, 1);
            setCost[0] = 0;
            for (int set = nextSet(0, guests), i = 0; set != 0 && i < SETS; set = nextSet(set, guests), i++) {
                int one = Integer.numberOfTrailingZeros(set);
                int rest = set & set - 1;
                int unlike = (snorers >> one & 1) != 0 ? rest & ~snorers : rest & snorers;
                setCost[set] = (feuds[one] & rest) != 0 ? FORBIDDEN : setCost[rest]
                        + price[SNORE_PRICE] * Integer.bitCount(unlike)
                        - price[COUPLE_PRICE] * Integer.bitCount(partners[one] & rest);
            }
            noteMovers(roomOf);
            int cost = arrange(guests, rooms, beds);
            return cost > PAID_MOST ? NONE : cost + price[COUPLE_PRICE] * couples;
        }

        /** Finds who of the guests makes a couple with whom: how many couples. */
        private int pairCouples(int guests, Book book) {
            int couples = 0;
            Arrays.fill(partners, 0);
            for (int a = 0; a < book.kinSize; a++) {
                for (int b = 0; b < a; b++) {
                    boolean both = (guests >> a & guests >> b & 1) != 0;
                    if (both && book.coupleIn(a, b, book.year)) {
                        partners[a] |= 1 << b;
                        partners[b] |= 1 << a;
                        couples++;
                    }
                }
            }
            return couples;
        }

        private void noteMovers(int[] roomOf) {
            for (int room = 0; room < rooms; room++) {
                movers[room] = 0;
                for (int i = 0; i < KIN_MOST; i++) {
                    if (roomOf[i] != NONE && roomOf[i] != room) {
                        movers[room] |= 1 << i;
                    }
                }
            }
        }

        /** Finds a MEAL's seating into chosen: how many twos are new, or NONE. */
        int findSeating(int guests, Book book, int[] satWith) {
            for (int i = 0; i < KIN_MOST; i++) {
                partners[i] = guests & ~satWith[i];
            }
            setCost[0] = 0;
            for (int set = nextSet(0, guests), i = 0; set != 0 && i < SETS; set = nextSet(set, guests), i++) {
                int one = Integer.numberOfTrailingZeros(set);
                int rest = set & set - 1;
                setCost[set] = (feuds[one] & rest) != 0 ? FORBIDDEN : setCost[rest] - Integer.bitCount(partners[one] & rest);
            }
            forbidDiets(guests, book);
            Arrays.fill(movers, 0);
            int cost = arrange(guests, tables, seats);
            return cost > PAID_MOST ? NONE : -cost;
        }

        private void forbidDiets(int guests, Book book) {
            int d0 = book.withTrait(Book.DIET_TRAIT, 0);
            int d1 = book.withTrait(Book.DIET_TRAIT, 1);
            int d2 = book.withTrait(Book.DIET_TRAIT, 2);
            int d3 = book.withTrait(Book.DIET_TRAIT, 3);
            for (int set = nextSet(0, guests), i = 0; set != 0 && i < SETS; set = nextSet(set, guests), i++) {
                int unlike = ((set & d0) != 0 ? 1 : 0) + ((set & d1) != 0 ? 1 : 0)
                        + ((set & d2) != 0 ? 1 : 0) + ((set & d3) != 0 ? 1 : 0);
                if (unlike > price[KITCHEN]) {
                    setCost[set] = FORBIDDEN;
                }
            }
        }

        /** The next greater set within a whole, 0 behind the last one. */
        private static int nextSet(int set, int whole) {
            return set - whole & whole;
        }

        /** Puts all into places by setCost and movers, of the cheapest ways the first by the places' sets. */
        private int arrange(int guests, int places, int[] capacity) {
            if (places == 0) {
                return guests == 0 ? 0 : FORBIDDEN;
            }
            int before = 0;
            for (int place = 0; place < places; place++) {
                before += capacity[place];
            }
            int space = 0;
            for (int place = places - 1; place >= 0; place--) {
                space += capacity[place];
                before -= capacity[place];
                pricePlace(guests, place, capacity[place]);
                if (place == places - 1) {
                    System.arraycopy(placeCost, 0, least[place], 0, SETS);
                } else if (place > 0) {
                    fillLeast(guests, place, space, before);
                } else {
                    least[0][guests] = leastFrom(guests, placeCost, least[1]);
                }
            }
            int cost = least[0][guests];
            if (cost <= PAID_MOST) {
                choose(guests, places, capacity);
            }
            return cost;
        }

        private void pricePlace(int guests, int place, int capacity) {
            int set = 0;
            for (int i = 0; i < SETS; i++) {
                placeCost[set] = Integer.bitCount(set) > capacity ? FORBIDDEN
                        : setCost[set] + price[MOVE_PRICE] * Integer.bitCount(set & movers[place]);
                set = nextSet(set, guests);
                if (set == 0) {
                    break;
                }
            }
        }

        /** Leaves out sets that have no space from here on, or whose others have none before. */
        private void fillLeast(int guests, int place, int space, int before) {
            int set = 0;
            for (int i = 0; i < SETS; i++) {
                boolean fits = Integer.bitCount(set) <= space && Integer.bitCount(guests ^ set) <= before;
                least[place][set] = fits ? leastFrom(set, placeCost, least[place + 1]) : FORBIDDEN;
                set = nextSet(set, guests);
                if (set == 0) {
                    break;
                }
            }
        }

        private static int leastFrom(int whole, int[] here, int[] behind) {
            int least = FORBIDDEN;
            int set = 0;
            for (int i = 0; i < SETS; i++) {
                int cost = here[set] + behind[whole ^ set];
                if (cost < least) {
                    least = cost;
                }
                set = set - whole & whole;
                if (set == 0) {
                    break;
                }
            }
            return least;
        }

        private void choose(int guests, int places, int[] capacity) {
            int left = guests;
            for (int place = 0; place < places; place++) {
                if (place == places - 1) {
                    chosen[place] = left;
                } else {
                    pricePlace(left, place, capacity[place]);
                    chosen[place] = firstFor(least[place][left], left, least[place + 1]);
                }
                left ^= chosen[place];
            }
        }

        private int firstFor(int cost, int whole, int[] behind) {
            int set = 0;
            for (int i = 0; i < SETS && placeCost[set] + behind[whole ^ set] != cost; i++) {
                set = nextSet(set, whole);
            }
            return set;
        }
    }

    /** THE MEETING that is on: GUESTS, their beds, meals and receipts. */
    private static final class Meeting {
        static final int MEALS_MOST = 8;
        static final int PAID_MOST = 999999;

        int option = NONE;
        int guests;
        final int[] paid = new int[KIN_MOST];
        final int[] roomOf = new int[KIN_MOST];
        int meals;
        final int[][] tableOf = new int[MEALS_MOST][KIN_MOST];
        final int[] satWith = new int[KIN_MOST];

        Meeting() {
            Arrays.fill(roomOf, NONE);
        }

        boolean isOn() {
            return option != NONE;
        }

        boolean isGuest(int kin) {
            return kin >= 0 && kin < KIN_MOST && (guests >> kin & 1) != 0;
        }

        void keepBedding(int[] sets, int rooms) {
            place(sets, rooms, roomOf);
        }

        void keepMeal(int[] sets, int tables) {
            place(sets, tables, tableOf[meals]);
            for (int i = 0; i < KIN_MOST; i++) {
                if (tableOf[meals][i] != NONE) {
                    satWith[i] |= sets[tableOf[meals][i]];
                }
            }
            meals++;
        }

        private static void place(int[] sets, int places, int[] placeOf) {
            Arrays.fill(placeOf, NONE);
            for (int place = 0; place < places; place++) {
                for (int i = 0; i < KIN_MOST; i++) {
                    if ((sets[place] >> i & 1) != 0) {
                        placeOf[i] = place;
                    }
                }
            }
        }

        int paidInAll() {
            int sum = 0;
            for (int i = 0; i < KIN_MOST; i++) {
                sum += paid[i];
            }
            return sum;
        }

        void close() {
            option = NONE;
            guests = 0;
            meals = 0;
            Arrays.fill(paid, 0);
            Arrays.fill(roomOf, NONE);
            Arrays.fill(satWith, 0);
        }
    }

    /** Shares of what was paid, and the payments that settle them. */
    private static final class Purse {
        final long[] weight = new long[KIN_MOST];
        final int[] share = new int[KIN_MOST];
        final int[] balance = new int[KIN_MOST];
        /** For each set its balances together, and how many groups whose own are 0 it can be cut into. */
        final int[] together = new int[SETS];
        final int[] groups = new int[SETS];
        final int[] open = new int[KIN_MOST];
        int payments;
        final int[] payer = new int[KIN_MOST];
        final int[] getter = new int[KIN_MOST];
        final int[] coins = new int[KIN_MOST];

        /** Divides all that was paid by the weights; those who are no guests weigh nothing. */
        void divide(int guests, int[] paid, int all) {
            long weights = 0;
            for (int i = 0; i < KIN_MOST; i++) {
                weights += weight[i];
            }
            boolean alike = weights == 0;
            long divisor = alike ? Math.max(1, Integer.bitCount(guests)) : weights;
            int left = all;
            for (int i = 0; i < KIN_MOST; i++) {
                long part = alike ? guests >> i & 1 : weight[i];
                share[i] = (int) (all * part / divisor);
                left -= share[i];
            }
            for (int i = 0; i < KIN_MOST; i++) {
                boolean pays = alike ? (guests >> i & 1) != 0 : weight[i] > 0;
                if (pays && left > 0) {
                    share[i]++;
                    left--;
                }
                balance[i] = paid[i] - share[i];
            }
        }

        void settleAll(int guests) {
            int members = 0;
            for (int i = 0; i < KIN_MOST; i++) {
                open[i] = balance[i];
                if ((guests >> i & 1) != 0 && balance[i] != 0) {
                    members |= 1 << i;
                }
            }
            countGroups(members);
            payments = 0;
            for (int i = 0; i < KIN_MOST && members != 0; i++) {
                int group = firstGroup(members);
                payWithin(group);
                members ^= group;
            }
        }

        /** A set taken one by one in the best order is 0 as often as it has groups. */
        private void countGroups(int members) {
            together[0] = 0;
            groups[0] = 0;
            for (int set = -members & members, i = 0; set != 0 && i < SETS; set = set - members & members, i++) {
                int rest = set & set - 1;
                together[set] = together[rest] + balance[Integer.numberOfTrailingZeros(set)];
                int most = 0;
                for (int k = 0; k < KIN_MOST; k++) {
                    if ((set >> k & 1) != 0) {
                        most = Math.max(most, groups[set ^ 1 << k]);
                    }
                }
                groups[set] = together[set] == 0 ? most + 1 : most;
            }
        }

        /** The group of the least member: the least number that leaves as many groups as can be. */
        private int firstGroup(int members) {
            int one = members & -members;
            int others = members ^ one;
            int set = 0;
            for (int i = 0; i < SETS; i++) {
                int group = one | set;
                if (together[group] == 0 && groups[members ^ group] == groups[members] - 1) {
                    return group;
                }
                set = set - others & others;
            }
            return members;
        }

        private void payWithin(int group) {
            for (int i = 0; i < KIN_MOST && payments < KIN_MOST; i++) {
                int debtor = firstOpen(group, -1);
                int creditor = firstOpen(group, 1);
                if (debtor == NONE || creditor == NONE) {
                    return;
                }
                int sum = Math.min(-open[debtor], open[creditor]);
                open[debtor] += sum;
                open[creditor] -= sum;
                payer[payments] = debtor;
                getter[payments] = creditor;
                coins[payments] = sum;
                payments++;
            }
        }

        private int firstOpen(int group, int side) {
            for (int i = 0; i < KIN_MOST; i++) {
                if ((group >> i & 1) != 0 && Integer.signum(open[i]) == side) {
                    return i;
                }
            }
            return NONE;
        }
    }
}
