import java.lang.management.ManagementFactory;

/** What a run makes: little in the constructor, and nothing in the calls but the exceptions of branch. */
public final class RoomTest {
    private static final Due D = new Due();

    public static void main(String[] args) {
        D.part("the room");
        for (int i = 0; i < 20; i++) {
            use(new KinMeet());
        }
        long before = made();
        KinMeet x = new KinMeet();
        long built = made() - before;
        // some 11,500 fields and elements
        D.due(built + " bytes for a new object", built < 100000, true);
        before = made();
        int calls = use(x);
        long used = made() - before;
        D.due(calls + " calls", calls <= 512, true);
        D.due(used + " bytes for the calls", used < 2000, true);
        D.end();
    }

    private static long made() {
        com.sun.management.ThreadMXBean bean = (com.sun.management.ThreadMXBean) ManagementFactory.getThreadMXBean();
        return bean.getCurrentThreadAllocatedBytes();
    }

    private static final int[] TEXT = {
        0x73636f72, 0x65207375, 0x6d287265, 0x67726574, 0x20696620, // score sum(regret if
        0x63616e29, 0x202b2066, 0x6172653b, 0x70617920, 0x6d65616e, // can) + fare;pay mean
        0x732b3120, 0x616e6420, 0x6e6f7420, 0x303b2020, 0x20202020}; // s+1 and not 0;

    private static int use(KinMeet x) {
        int calls = 0;
        for (int k = 0; k < 10; k++) {
            x.kin(k % 6, k % 4, k, k % 4, k % 3 == 0);
            calls++;
        }
        for (int i = 0; i < 15; i += 5) {
            x.feed(TEXT[i], TEXT[i + 1], TEXT[i + 2], TEXT[i + 3], TEXT[i + 4]);
        }
        if (x.rules(54) != 2) {
            throw new IllegalStateException("the text is wrong");
        }
        for (int i = 0; i < 6; i++) {
            x.option(i, 30);
        }
        for (int i = 0; i < 60; i++) {
            x.regret(i % 10, i / 10, i * 7 % 90);
        }
        for (int i = 0; i < 14; i++) {
            x.flight(i % 6, (i + 1 + i / 6) % 6, 1, 1 + i % 3, i);
        }
        for (int i = 0; i < 90; i++) {
            x.note(i % 5, 1 + i % 9, i % (1 + i % 9), i % 2);
        }
        calls += 4 + 6 + 60 + 14 + 90;
        for (int i = 0; i < 20; i++) {
            x.near(x.count(1), 9, i % 10, i % 6);
            x.choice();
            x.ring();
        }
        for (int i = 0; i < 4; i++) {
            x.room(5);
            x.table(6);
        }
        x.price(3, 4);
        x.meet(0);
        calls += 80 + 8 + 2;
        for (int i = 0; i < 30; i++) {
            x.bed();
            x.meal();
            x.receipt(i % 10, 1 + i);
            x.settle();
            x.payment(i % 9, i % 3);
            x.owes(i % 10, i % 3);
            x.host();
        }
        x.end();
        return calls + 211;
    }
}
