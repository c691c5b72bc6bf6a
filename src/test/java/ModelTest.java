import java.util.ArrayList;
import java.util.List;
import java.util.Random;

/** Random runs of 512 calls, each answer beside that of the model; the seeds are fixed. */
public final class ModelTest {
    private static final Check check = new Check();
    private static final int RUNS = 3000, CALLS = 512;
    private static final int DEEP = 0, WIDE = 1, FILLING = 2, PROFILES = 3;
    private static final long[] ODD = {Long.MIN_VALUE, -1001, -1000, -1, 0, 1000, 1001, 1L << 32, Long.MAX_VALUE};
    private static final String[] CALL = {
        "state", "key", "leave", "span", "put", "value", "add", "item", "set", "get", "member", "remove", "fold",
        "size", "clear", "clearSpan", "keys", "keyAt", "snapshot", "drop", "ask", "entries", "restore", "move", "of",
        "told"};
    private static final int[][] WEIGHT = {
        {2, 8, 1, 2, 10, 6, 40, 10, 40, 10, 8, 10, 12, 8, 1, 1, 2, 4, 4, 2, 20, 4, 2, 3, 3, 12},
        {4, 20, 1, 4, 14, 6, 14, 6, 18, 6, 4, 10, 14, 6, 4, 1, 3, 6, 5, 3, 14, 5, 3, 8, 3, 14},
        {1, 2, 0, 1, 90, 4, 40, 2, 40, 2, 2, 4, 30, 4, 2, 0, 3, 6, 2, 1, 8, 3, 1, 2, 1, 14}};

    private final Random random;
    private final KeyStates real = new KeyStates();
    private final Model model = new Model();
    private final List<Integer> snapshots = new ArrayList<>();
    private final int profile;
    private final int seed;
    private int calls = 0;

    private ModelTest(int seed) {
        this.seed = seed;
        this.profile = seed % PROFILES;
        this.random = new Random(seed);
    }

    public static void main(String[] args) {
        for (int seed = 0; seed < RUNS; seed++) {
            ModelTest run = new ModelTest(seed);
            // One step may be two calls: a key, and what is done for it.
            while (run.calls < CALLS - 1) {
                run.one(run.calls);
            }
        }
        check.end();
    }

    private void one(int n) {
        // The first calls tell states, or most calls would find none.
        String call = n < 5 ? "state" : CALL[pick(WEIGHT[profile])];
        if (profile == FILLING && "put add set fold".contains(call)) {
            takeKey(aKey());
        }
        int s = stateFor(call);
        int snap = aSnapshot();
        long v = rare(12) ? ODD[random.nextInt(ODD.length)] : random.nextInt(1000);
        long m = random.nextInt(profile == DEEP ? 13 : 30) - 2;
        int i = rare(10) ? random.nextInt(12) - 1 : random.nextInt(2);
        switch (call) {
            case "key": takeKey(aKey()); break;
            case "put": same(n, call, () -> real.put(s, v), () -> model.put(s, v)); break;
            case "value": same(n, call, () -> real.value(s), () -> model.value(s)); break;
            case "add": same(n, call, () -> real.add(s, v), () -> model.add(s, v)); break;
            case "item": same(n, call, () -> real.item(s, i), () -> model.item(s, i)); break;
            case "set": same(n, call, () -> real.set(s, m, v), () -> model.set(s, m, v)); break;
            case "get": same(n, call, () -> real.get(s, m), () -> model.get(s, m)); break;
            case "member": same(n, call, () -> real.member(s, i), () -> model.member(s, i)); break;
            case "remove": same(n, call, () -> Check.bit(real.remove(s, m)), () -> Check.bit(model.remove(s, m))); break;
            case "fold": same(n, call, () -> real.fold(s, v), () -> model.fold(s, v)); break;
            case "size": same(n, call, () -> real.size(s), () -> model.size(s)); break;
            case "clear": same(n, call, () -> Check.bit(real.clear(s)), () -> Check.bit(model.clear(s))); break;
            case "keys": same(n, call, () -> real.keys(s), () -> model.keys(s)); break;
            case "keyAt": same(n, call, () -> real.keyAt(s, i), () -> model.keyAt(s, i)); break;
            case "drop": same(n, call, () -> real.drop(snap), () -> dropped(snap)); break;
            case "entries": same(n, call, () -> real.entries(snap, s), () -> model.entries(snap, s)); break;
            case "restore": same(n, call, () -> real.restore(snap), () -> model.restore(snap)); break;
            default: another(n, call, s, snap, i); break;
        }
    }

    private void another(int n, String call, int s, int snap, int i) {
        int name = random.nextInt(10);
        int kind = rare(30) ? random.nextInt(6) - 1 : random.nextInt(4);
        int type = rare(30) ? random.nextInt(5) - 1 : random.nextInt(3);
        int span = rare(20) ? Integer.MIN_VALUE : random.nextInt(profile == DEEP ? 2 : 3);
        int what = random.nextInt(9) - 1;
        long k = aKey();
        switch (call) {
            case "state": same(n, call, () -> real.state(name, kind, type), () -> model.state(name, kind, type)); break;
            case "leave": same(n, call, () -> Check.bit(real.leave()), () -> Check.bit(model.leave())); break;
            case "span": same(n, call, () -> real.span(span), () -> model.span(span)); break;
            case "clearSpan": same(n, call, () -> real.clearSpan(), () -> model.clearSpan()); break;
            case "snapshot": same(n, call, () -> real.snapshot(), () -> taken()); break;
            case "ask":
                same(n, call, () -> real.ask(snap, s, k, span, i), () -> model.ask(snap, s, k, span, i));
                break;
            case "move": same(n, call, () -> real.move(s, kind, type), () -> model.move(s, kind, type)); break;
            case "of": same(n, call, () -> real.of(s, what), () -> model.of(s, what)); break;
            default: same(n, call + " " + what, () -> real.told(what), () -> model.told(what)); break;
        }
    }

    private void same(int n, String call, Check.Call ofReal, Check.Call ofModel) {
        calls++;
        check.judge("run " + seed + ", call " + n + ", " + call, Check.answer(ofReal), Check.answer(ofModel));
    }

    private void takeKey(long k) {
        calls++;
        real.key(k);
        model.key(k);
    }

    private long taken() {
        int number = model.snapshot();
        if (number >= 0) {
            snapshots.add(number);
        }
        return number;
    }

    private long dropped(int snapshot) {
        int shared = model.drop(snapshot);
        snapshots.remove(Integer.valueOf(snapshot));
        return shared;
    }

    private boolean rare(int of) {
        return random.nextInt(of) == 0;
    }

    private int pick(int[] weights) {
        int all = 0;
        for (int w : weights) {
            all += w;
        }
        int at = random.nextInt(all);
        int c = 0;
        while (at >= weights[c]) {
            at -= weights[c];
            c++;
        }
        return c;
    }

    /** Mostly a state whose kind the call is for; now and then any, or one that is not there. */
    private int stateFor(String call) {
        int told = model.told(0);
        if (told == 0 || rare(60)) {
            return random.nextInt(12) - 2;
        }
        String kinds = "put value".contains(call) ? "0" : "add item".contains(call) ? "1"
            : "set get member remove".contains(call) ? "2" : call.equals("fold") ? "3" : "0123";
        int first = random.nextInt(told);
        for (int n = 0; n < told && !rare(60); n++) {
            int s = (first + n) % told;
            if (kinds.indexOf('0' + model.of(s, 1)) >= 0) {
                return s;
            }
        }
        return first;
    }

    private int aSnapshot() {
        if (rare(15)) {
            return random.nextInt(20) - 3;
        }
        return snapshots.isEmpty() || rare(4) ? -1 : snapshots.get(random.nextInt(snapshots.size()));
    }

    private long aKey() {
        if (profile == DEEP) {
            return random.nextInt(2);
        }
        if (profile == WIDE) {
            return random.nextBoolean() ? ODD[random.nextInt(ODD.length)] : random.nextInt(6);
        }
        // Keys 16 apart lie on one page, which grows large then.
        return seed % 2 == 0 ? 16L * random.nextInt(400) : random.nextInt(400);
    }
}
