import java.util.ArrayList;
import java.util.List;
import java.util.function.Consumer;
import java.util.function.Supplier;

/** All that can be asked of an object, as rows of text: to see that a refused call left all as it was. */
final class Look {
    private final KinMeet x;
    private final List<String> rows = new ArrayList<>();

    private Look(KinMeet seen) {
        x = seen;
    }

    /** Holds an object on which calls were refused against one like it on which they weren't made. */
    static void unchanged(Due d, String name, Supplier<KinMeet> state, Consumer<KinMeet> refusedCalls) {
        KinMeet tried = state.get();
        refusedCalls.accept(tried);
        List<String> due = of(state.get());
        List<String> got = of(tried);
        for (int i = 0; i < due.size(); i++) {
            d.due(name + ": then " + got.get(i) + ", due is " + due.get(i), got.get(i).equals(due.get(i)), true);
        }
    }

    /** Some 300 calls; the last ones change the object, which is of no use then. */
    private static List<String> of(KinMeet seen) {
        Look look = new Look(seen);
        look.book();
        look.options();
        look.meeting();
        look.hosts();
        look.turn();
        return look.rows;
    }

    private void row(String call, long answer) {
        rows.add(call + " " + answer);
    }

    private void row(String call, boolean answer) {
        rows.add(call + " " + answer);
    }

    private void book() {
        for (int w = 0; w < 10; w++) {
            row("count(" + w + ")", x.count(w));
        }
        row("fault(0)", x.fault(0));
        row("fault(1)", x.fault(1));
        int n = x.count(1);
        int y = x.count(2);
        int last = x.count(0) - 1;
        for (int k = 0; k <= last; k++) {
            row("told alive " + k, x.told(n, y, k, 0, 0));
            row("told age " + k, x.told(n, y, k, 0, 1));
            row("told couple " + k, x.told(n, y, k, 0, 2));
            row("told sure " + k, x.told(n, y, k, 0, 3));
        }
        for (int w = 0; w < 6; w++) {
            row("near " + w, x.near(n, last, 0, w));
        }
    }

    private void options() {
        for (int o = 0; o < x.count(3); o++) {
            row("BRING " + o, x.travel(o, 0));
            row("PRICES " + o, x.travel(o, 1));
            row("CAN " + o, x.travel(o, 2));
            row("score " + o, x.score(o));
            row("out " + o, x.judged(o, 0));
            row("beats " + o, x.judged(o, 1));
        }
        row("choice", x.choice());
        row("ring", x.ring());
    }

    private void meeting() {
        for (int k = 0; k < x.count(0); k++) {
            row("bedded " + k, x.bedded(k));
            for (int m = 0; m < Math.min(3, x.count(6)); m++) {
                row("seated " + m + " " + k, x.seated(m, k));
            }
            for (int w = 0; w < 3; w++) {
                row("owes " + k + " " + w, x.owes(k, w));
            }
        }
        int payments = x.settle();
        row("settle", payments);
        for (int p = 0; p < payments; p++) {
            for (int w = 0; w < 3; w++) {
                row("payment " + p + " " + w, x.payment(p, w));
            }
        }
    }

    private void hosts() {
        row("host", x.host());
        for (int b = 0; b < 4; b++) {
            for (int w = 0; w < 3; w++) {
                row("branch " + b + " " + w, x.branch(b, w));
            }
        }
    }

    /** What can be seen by calls alone that change the object. */
    private void turn() {
        int kin = x.count(0);
        row("bed", x.bed());
        for (int k = 0; k < kin; k++) {
            row("then bedded " + k, x.bedded(k));
        }
        row("meal", x.meal());
        for (int k = 0; k < kin; k++) {
            row("then seated " + k, x.seated(x.count(6) - 1, k));
        }
        for (int k = 1; k < kin; k++) {
            row("feud of " + k, x.feud(k, k - 1, true));
        }
        for (int k = 0; k < kin; k++) {
            row("guest " + k, x.guest(k, false));
        }
        row("end", x.end());
        int length = x.feed(0x20202020, 0x20202020, 0x20202020, 0x20202020, 0x20202020);
        row("feed", length);
        row("rules of the tape", x.rules(length == -1 ? 600 : length));
        row("fault", x.fault(0));
        row("knots", x.count(9));
        row("its place", x.fault(1));
        traits();
        row("room", x.room(1));
        row("table", x.table(2));
        row("flight", x.flight(0, 1, 1, 1, 0));
        row("note", x.note(3, 0, 0, 0));
        row("kin", x.kin(0, 0, 0, 0, false));
        row("years", x.years(1));
    }

    /** Home, branch and means, and the MILES to two LANDS. */
    private void traits() {
        int o = x.option(0, 1);
        int p = x.option(1, 1);
        row("option", o);
        row("option", p);
        String[] names = {"home", "branch", "means", "miles", "age"};
        for (String name : names) {
            Due.rules(x, "score sum(" + name + "*(1+home*7+branch*3+means));");
            row(name, x.score(Math.max(o, 0)));
            row(name, x.score(Math.max(p, 0)));
        }
        x.meet(0);
        for (int k = 0; k < x.count(0); k++) {
            x.guest(k, true);
        }
        row("bed of all", x.bed());
        row("meal of all", x.meal());
    }
}
