import java.lang.management.ManagementFactory;

/**
 * The room of a run is some 600,000 objects and arrays with 7.3 million fields and elements. An object
 * takes 16 bytes at the least, and a field or element here 4: what stays under 8 million bytes keeps both.
 */
public final class RoomTest {
    private static final long MOST_BYTES = 8_000_000;
    private static final Check check = new Check();
    private static final com.sun.management.ThreadMXBean bean =
        (com.sun.management.ThreadMXBean) ManagementFactory.getThreadMXBean();

    private interface Run {
        void go();
    }

    public static void main(String[] args) {
        measure("a new object", () -> new KeyStates());
        measure("moving 150 entries to and fro", RoomTest::movingToAndFro);
        measure("moving shared pages", RoomTest::movingShared);
        measure("folding lists again and again", RoomTest::foldingLists);
        measure("writing on one shared page of 150", RoomTest::oneBusyPage);
        measure("keyAt of 150", RoomTest::sortingKeys);
        measure("snapshots", RoomTest::snapshots);
        check.end();
    }

    private static void measure(String what, Run run) {
        run.go();
        long id = Thread.currentThread().getId();
        long before = bean.getThreadAllocatedBytes(id);
        run.go();
        long made = bean.getThreadAllocatedBytes(id) - before;
        System.out.println(what + ": " + made + " bytes");
        check.yes(what + " makes little", made < MOST_BYTES);
    }

    private static KeyStates filled(long step) {
        KeyStates x = new KeyStates();
        x.state(1, 0, 0);
        for (int k = 0; k < 150; k++) {
            x.key(k * step);
            x.put(0, k);
        }
        return x;
    }

    private static void movingToAndFro() {
        KeyStates x = filled(1);
        for (int n = 0; n < 105; n++) {
            x.move(0, 3, 0);
            x.move(0, 0, 0);
        }
    }

    private static void movingShared() {
        KeyStates x = filled(1);
        for (int n = 0; n < 70; n++) {
            int s = x.snapshot();
            x.move(0, n % 2 == 0 ? 3 : 0, 0);
            x.drop(s);
        }
    }

    private static void foldingLists() {
        KeyStates x = new KeyStates();
        x.state(1, 1, 0);
        for (int n = 0; n < 250; n++) {
            x.key(n / 10);
            x.add(0, n);
        }
        x.snapshot();
        for (int n = 0; n < 120; n++) {
            x.move(0, 3, 0);
            x.restore(0);
        }
    }

    private static void oneBusyPage() {
        KeyStates x = filled(16);
        for (int n = 0; n < 70; n++) {
            int s = x.snapshot();
            x.put(0, n);
            x.drop(s);
        }
    }

    private static void sortingKeys() {
        KeyStates x = filled(1);
        for (int n = 0; n < 200; n++) {
            x.keyAt(0, n % 150);
        }
    }

    private static void snapshots() {
        KeyStates x = new KeyStates();
        for (int n = 0; n < 256; n++) {
            x.drop(x.snapshot());
        }
    }
}
