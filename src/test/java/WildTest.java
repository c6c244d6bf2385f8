import java.util.NoSuchElementException;
import java.util.Random;

/** Calls in any order with any numbers: none may throw, but for branch, and that only what the document names. */
public final class WildTest {
    private static final int[] EDGES = {Integer.MIN_VALUE, Integer.MIN_VALUE + 1, -100, -2, -1, 0, 1, 2, 3, 4, 5, 6, 9, 10, 11, 13, 14, 30, 31, 32, 33,
        63, 64, 99, 100, 101, 599, 600, 601, 999, 1000, 9999, 99999, 999999, 1 << 20, 1 << 30, Integer.MAX_VALUE - 1, Integer.MAX_VALUE};

    private final Random random;
    private final KinMeet x = new KinMeet();

    private WildTest(long seed) {
        random = new Random(seed);
    }

    public static void main(String[] args) {
        for (long seed = 1; seed <= 3000; seed++) {
            WildTest test = new WildTest(seed);
            int wildness = 1 + (int) (seed % 4) * 20;
            try {
                for (int i = 0; i < 512; i++) {
                    test.call(test.random.nextInt(37), wildness);
                }
            } catch (RuntimeException e) {
                System.out.println("seed " + seed + " threw " + e);
                e.printStackTrace(System.out);
                System.exit(1);
            }
        }
        System.out.println("3000 wild runs, nothing thrown");
    }

    /** Mostly a small number, by so many percent any one. */
    private int n(int bound, int wildness) {
        if (random.nextInt(100) >= wildness) {
            return random.nextInt(bound);
        }
        return random.nextBoolean() ? EDGES[random.nextInt(EDGES.length)] : random.nextInt();
    }

    private int word() {
        String letters = "sum(1)+*/ if;bar0% regret<>=-pay host can score)(not and or;";
        int at = random.nextInt(letters.length() - 4);
        return letters.charAt(at) << 24 | letters.charAt(at + 1) << 16 | letters.charAt(at + 2) << 8 | letters.charAt(at + 3);
    }

    private void call(int which, int w) {
        switch (which) {
            case 0: x.feed(word(), word(), word(), word(), random.nextInt(50) == 0 ? random.nextInt() : word()); break;
            case 1: x.rules(n(60, w)); break;
            case 2: x.fault(n(2, w)); break;
            case 3: x.kin(n(6, w), n(4, w), n(100, w), n(4, w), random.nextBoolean()); break;
            case 4: x.change(n(10, w), n(5, w), n(4, w)); break;
            case 5: x.note(n(5, w), n(10, w), n(10, w), n(3, w)); break;
            case 6: x.strike(n(100, w)); break;
            case 7: x.near(n(100, w), n(10, w), n(10, w), n(6, w)); break;
            case 8: x.told(n(100, w), n(5, w), n(10, w), n(10, w), n(4, w)); break;
            case 9: x.years(n(3, w)); break;
            case 10: x.miles(n(6, w), n(6, w), n(9, w)); break;
            case 11: x.option(n(6, w), n(30, w)); break;
            case 12: x.regret(n(10, w), n(6, w), n(101, w)); break;
            case 13: x.flight(n(6, w), n(6, w), n(30, w), n(9, w), n(99, w)); break;
            case 14: x.travel(n(6, w), n(3, w)); break;
            case 15: x.score(n(6, w)); break;
            case 16: x.judged(n(6, w), n(2, w)); break;
            case 17: x.choice(); break;
            case 18: x.ring(); break;
            case 19: x.meet(n(6, w)); break;
            case 20: x.guest(n(10, w), random.nextBoolean()); break;
            case 21: x.room(n(6, w)); break;
            case 22: x.feud(n(10, w), n(10, w), random.nextBoolean()); break;
            case 23: x.price(n(4, w), n(5, w)); break;
            case 24: x.bed(); break;
            case 25: x.bedded(n(10, w)); break;
            case 26: x.table(n(7, w)); break;
            case 27: x.meal(); break;
            case 28: x.seated(n(8, w), n(10, w)); break;
            case 29: x.receipt(n(10, w), n(100000, w)); break;
            case 30: x.owes(n(10, w), n(3, w)); break;
            case 31: x.settle(); break;
            case 32: x.payment(n(9, w), n(3, w)); break;
            case 33: x.host(); break;
            case 34: if (random.nextInt(8) == 0) { x.end(); } break;
            case 35: branch(n(4, w), n(3, w)); break;
            default: x.count(n(10, w)); break;
        }
    }

    private void branch(int branch, int what) {
        boolean inBranch = branch >= 0 && branch <= 3;
        boolean inWhat = what >= 0 && what <= 2;
        String thrown = "";
        try {
            x.branch(branch, what);
        } catch (IndexOutOfBoundsException e) {
            thrown = e.getClass().getSimpleName();
        } catch (NoSuchElementException e) {
            thrown = e.getClass().getSimpleName();
        }
        String due = !inBranch ? "IndexOutOfBoundsException" : inWhat ? "" : "NoSuchElementException";
        if (!thrown.equals(due)) {
            throw new IllegalStateException("branch(" + branch + ", " + what + ") threw " + thrown);
        }
    }
}
