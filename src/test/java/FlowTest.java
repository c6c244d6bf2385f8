import java.util.Random;

/**
 * Promise 16 with as many kin and flights as there can be, which the Oracle is too slow for. Found in another way than KinMeet's:
 * any flow that brings the most first, then every ring that makes it cheaper is turned until there is none.
 */
public final class FlowTest {
    private static final Due D = new Due();
    private static final int LANDS = 6;
    private static final int SOURCE = 6;
    private static final int SINK = 7;
    private static final int NODES = 8;
    private static final int ARCS_MOST = 2 * (14 + LANDS + 1);

    /** Arcs in twos: one, and the one that gives back what goes along it. */
    private final int[] from = new int[ARCS_MOST];
    private final int[] to = new int[ARCS_MOST];
    private final int[] space = new int[ARCS_MOST];
    private final int[] price = new int[ARCS_MOST];
    private int arcs;

    public static void main(String[] args) {
        Random random = new Random(20261119);
        for (int i = 0; i < 2000; i++) {
            D.part("network " + i);
            network(random);
        }
        D.end();
    }

    private static void network(Random random) {
        KinMeet x = new KinMeet();
        int lands = 2 + random.nextInt(LANDS - 1);
        int kin = 1 + random.nextInt(10);
        int[] home = new int[kin];
        for (int i = 0; i < kin; i++) {
            home[i] = random.nextInt(lands);
            x.kin(home[i], 0, 0, 0, false);
        }
        int prices = new int[] {2, 5, 30, 1000}[random.nextInt(4)];
        int seats = 1 + random.nextInt(9);
        int[][] flights = new int[random.nextInt(15)][];
        for (int i = 0; i < flights.length; i++) {
            int start = random.nextInt(lands);
            int goal = (start + 1 + random.nextInt(lands - 1)) % lands;
            flights[i] = new int[] {start, goal, 1 + random.nextInt(30), 1 + random.nextInt(seats), random.nextInt(prices)};
            D.due("flight", x.flight(start, goal, flights[i][2], flights[i][3], flights[i][4]), i);
        }
        for (int o = 0; o < 6; o++) {
            ask(x, o, random.nextInt(lands), 10 + random.nextInt(21), home, flights, random);
        }
    }

    private static void ask(KinMeet x, int o, int land, int day, int[] home, int[][] flights, Random random) {
        D.due("option", x.option(land, day), o);
        FlowTest flow = new FlowTest();
        int come = 0;
        int[] waiting = new int[LANDS];
        for (int i = 0; i < home.length; i++) {
            if (random.nextInt(10) > 0) {
                x.regret(i, o, random.nextInt(100));
                waiting[home[i]]++;
                come++;
            }
        }
        for (int i = 0; i < LANDS; i++) {
            flow.add(SOURCE, i, waiting[i], 0);
        }
        flow.add(land, SINK, come, 0);
        for (int[] f : flights) {
            if (f[2] <= day) {
                flow.add(f[0], f[1], f[3], f[4]);
            }
        }
        int brought = 0;
        while (flow.bring(SOURCE, new boolean[NODES])) {
            brought++;
        }
        while (flow.turnRing()) {
            // until no ring makes it cheaper
        }
        D.due("travel(" + o + ", 0)", x.travel(o, 0), brought);
        D.due("travel(" + o + ", 1)", x.travel(o, 1), flow.sum());
        D.due("travel(" + o + ", 2)", x.travel(o, 2), come);
    }

    private void add(int start, int goal, int most, int each) {
        for (int k = 0; k < 2; k++) {
            from[arcs] = k == 0 ? start : goal;
            to[arcs] = k == 0 ? goal : start;
            space[arcs] = k == 0 ? most : 0;
            price[arcs] = k == 0 ? each : -each;
            arcs++;
        }
    }

    private void push(int arc) {
        space[arc]--;
        space[arc ^ 1]++;
    }

    /** One more, on any way. */
    private boolean bring(int at, boolean[] seen) {
        if (at == SINK) {
            return true;
        }
        seen[at] = true;
        for (int i = 0; i < arcs; i++) {
            if (from[i] == at && space[i] > 0 && !seen[to[i]] && bring(to[i], seen)) {
                push(i);
                return true;
            }
        }
        return false;
    }

    private boolean turnRing() {
        int[] cost = new int[NODES];
        int[] last = new int[NODES];
        int at = -1;
        for (int round = 0; round <= NODES; round++) {
            at = -1;
            for (int i = 0; i < arcs; i++) {
                if (space[i] > 0 && cost[from[i]] + price[i] < cost[to[i]]) {
                    cost[to[i]] = cost[from[i]] + price[i];
                    last[to[i]] = i;
                    at = to[i];
                }
            }
        }
        if (at < 0) {
            return false;
        }
        // so many steps back lie within the ring
        for (int i = 0; i < NODES; i++) {
            at = from[last[at]];
        }
        int end = at;
        do {
            push(last[at]);
            at = from[last[at]];
        } while (at != end);
        return true;
    }

    private int sum() {
        int sum = 0;
        for (int i = 0; i < arcs; i += 2) {
            sum += space[i + 1] * price[i];
        }
        return sum;
    }
}
