import java.util.ArrayList;
import java.util.List;
import java.util.Map;
import java.util.NoSuchElementException;
import java.util.TreeMap;
import java.util.TreeSet;

/**
 * The document written a second time, with other means: entries in one sorted map that is copied
 * whole for a snapshot, and a serial number a page that tells whether two pages are the same.
 */
final class Model {
    private static final int BAD = -1, NO = -3, FULL = -4;

    private record Id(int state, long key, int span) implements Comparable<Id> {
        public int compareTo(Id o) {
            int c = Integer.compare(state, o.state);
            c = c != 0 ? c : Integer.compare(span, o.span);
            return c != 0 ? c : Long.compare(key, o.key);
        }

        int page() {
            int k = Long.hashCode(key);
            return Math.floorMod((k * 31 + span) * 31 + state, 16);
        }
    }

    private static final class Content {
        final List<Long> list = new ArrayList<>();
        final TreeMap<Long, Long> map = new TreeMap<>();
        int folded = 0;

        Content copy() {
            Content c = new Content();
            c.list.addAll(list);
            c.map.putAll(map);
            c.folded = folded;
            return c;
        }

        List<Long> numbers() {
            return map.isEmpty() ? list : new ArrayList<>(map.values());
        }
    }

    private static final class All {
        TreeMap<Id, Content> entries = new TreeMap<>();
        int[] serials = new int[16];
        List<int[]> states = new ArrayList<>();

        All copy() {
            All a = new All();
            entries.forEach((id, c) -> a.entries.put(id, c.copy()));
            a.serials = serials.clone();
            for (int[] s : states) {
                a.states.add(s.clone());
            }
            return a;
        }
    }

    private All now = new All();
    private final Map<Integer, All> snapshots = new TreeMap<>();
    private int taken = 0;
    private int copied = 0;
    private int lastSerial = 0;
    private Long key = null;
    private int span = 0;

    int state(int name, int kind, int type) {
        if (kind < 0 || kind > 3 || type < 0 || type > 2) {
            return BAD;
        }
        for (int[] s : now.states) {
            if (s[0] == name) {
                return s[1] == kind && s[2] == type ? now.states.indexOf(s) : NO;
            }
        }
        if (now.states.size() == 8) {
            return FULL;
        }
        now.states.add(new int[] {name, kind, type});
        return now.states.size() - 1;
    }

    void key(long k) {
        key = k;
    }

    boolean leave() {
        boolean had = key != null;
        key = null;
        return had;
    }

    int span(int s) {
        int old = span;
        span = s;
        return old;
    }

    int put(int state, long v) {
        Id id = at(state, "0", v);
        boolean fresh = !now.entries.containsKey(id);
        if (fresh && now.entries.size() == 150) {
            return FULL;
        }
        Content c = change(id);
        c.list.clear();
        c.list.add(v);
        return fresh ? 1 : 0;
    }

    long value(int state) {
        Id id = at(state, "03", null);
        if (!now.entries.containsKey(id)) {
            throw new NoSuchElementException();
        }
        return now.entries.get(id).list.get(0);
    }

    int add(int state, long v) {
        Id id = at(state, "1", v);
        int size = numbers(now, id).size();
        if (size == 10 || size == 0 && now.entries.size() == 150) {
            return FULL;
        }
        change(id).list.add(v);
        return size + 1;
    }

    long item(int state, int i) {
        return nth(numbers(now, at(state, "12", null)), i);
    }

    int set(int state, long member, long v) {
        Id id = at(state, "2", v);
        Content c = now.entries.get(id);
        boolean fresh = c == null || !c.map.containsKey(member);
        if (fresh && (c == null ? now.entries.size() == 150 : c.map.size() == 10)) {
            return FULL;
        }
        change(id).map.put(member, v);
        return fresh ? 1 : 0;
    }

    long get(int state, long member) {
        Content c = now.entries.get(at(state, "2", null));
        if (c == null || !c.map.containsKey(member)) {
            throw new NoSuchElementException();
        }
        return c.map.get(member);
    }

    long member(int state, int i) {
        Content c = now.entries.get(at(state, "2", null));
        return nth(c == null ? List.of() : new ArrayList<>(c.map.keySet()), i);
    }

    boolean remove(int state, long member) {
        Id id = at(state, "2", null);
        Content c = now.entries.get(id);
        if (c == null || !c.map.containsKey(member)) {
            return false;
        }
        change(id).map.remove(member);
        if (c.map.isEmpty()) {
            now.entries.remove(id);
        }
        return true;
    }

    int fold(int state, long v) {
        Id id = at(state, "3", null);
        if (!now.entries.containsKey(id) && now.entries.size() == 150) {
            return FULL;
        }
        return foldInto(change(id), now.states.get(state)[2], v);
    }

    int size(int state) {
        Content c = now.entries.get(at(state, "0123", null));
        if (c == null) {
            return 0;
        }
        return now.states.get(state)[1] == 3 ? c.folded : c.numbers().size();
    }

    boolean clear(int state) {
        Id id = at(state, "0123", null);
        if (!now.entries.containsKey(id)) {
            return false;
        }
        change(id);
        now.entries.remove(id);
        return true;
    }

    int clearSpan() {
        int n = 0;
        for (Id id : new ArrayList<>(now.entries.keySet())) {
            if (id.span == span) {
                change(id);
                now.entries.remove(id);
                n++;
            }
        }
        return n;
    }

    int keys(int state) {
        return risingKeys(state).size();
    }

    long keyAt(int state, int i) {
        return nth(new ArrayList<>(risingKeys(state)), i);
    }

    int snapshot() {
        if (snapshots.size() == 6) {
            return FULL;
        }
        snapshots.put(taken, now.copy());
        return taken++;
    }

    int drop(int snapshot) {
        taken(snapshot);
        snapshots.remove(snapshot);
        return told(3);
    }

    long ask(int snapshot, int state, long k, int s, int i) {
        All all = snapshot == -1 ? now : taken(snapshot);
        exists(state);
        List<Long> numbers = numbers(all, new Id(state, k, s));
        if (i < 0 || i >= numbers.size()) {
            throw new NoSuchElementException();
        }
        return numbers.get(i);
    }

    int entries(int snapshot, int state) {
        All all = snapshot == -1 ? now : taken(snapshot);
        exists(state);
        return (int) all.entries.keySet().stream().filter(id -> id.state == state).count();
    }

    int restore(int snapshot) {
        All then = taken(snapshot).copy();
        for (int s = then.states.size(); s < now.states.size(); s++) {
            then.states.add(now.states.get(s));
        }
        now = then;
        return now.entries.size();
    }

    int move(int state, int kind, int type) {
        exists(state);
        if (kind < 0 || kind > 3 || type < 0 || type > 2) {
            return BAD;
        }
        int from = now.states.get(state)[1];
        String way = "" + from + kind;
        if (!List.of("01", "03", "13", "30", "21", "00", "11", "22").contains(way)) {
            return NO;
        }
        List<Id> ids = new ArrayList<>();
        for (Map.Entry<Id, Content> e : now.entries.entrySet()) {
            if (e.getKey().state == state) {
                ids.add(e.getKey());
                if (!e.getValue().numbers().stream().allMatch(v -> fits(kind, type, v))) {
                    return NO;
                }
            }
        }
        for (Id id : ids) {
            Content c = change(id);
            List<Long> numbers = new ArrayList<>(c.numbers());
            if (kind != 2) {
                c.map.clear();
                c.list.clear();
                c.folded = 0;
                if (kind == 3) {
                    numbers.forEach(v -> foldInto(c, type, v));
                } else {
                    c.list.addAll(numbers);
                }
            }
        }
        now.states.get(state)[1] = kind;
        now.states.get(state)[2] = type;
        return ids.size();
    }

    int of(int state, int what) {
        exists(state);
        if (what < 0 || what > 2) {
            throw new IndexOutOfBoundsException();
        }
        return now.states.get(state)[what];
    }

    int told(int what) {
        switch (what) {
            case 0:
                return now.states.size();
            case 1:
                return now.entries.size();
            case 2:
                return snapshots.size();
            case 3:
                int n = 0;
                for (int p = 0; p < 16; p++) {
                    n += shared(p) ? 1 : 0;
                }
                return n;
            case 4:
                return copied;
            case 5:
                return (int) now.entries.keySet().stream().map(Id::page).distinct().count();
            case 6:
                return now.entries.values().stream().mapToInt(c -> c.numbers().size()).sum();
            default:
                return BAD;
        }
    }

    private Id at(int state, String kinds, Long v) {
        exists(state);
        int[] s = now.states.get(state);
        if (kinds.indexOf('0' + s[1]) < 0 || v != null && !fits(s[1], s[2], v)) {
            throw new IllegalArgumentException();
        }
        if (key == null) {
            throw new IllegalStateException();
        }
        return new Id(state, key, span);
    }

    private void exists(int state) {
        if (state < 0 || state >= now.states.size()) {
            throw new IndexOutOfBoundsException();
        }
    }

    private All taken(int snapshot) {
        if (!snapshots.containsKey(snapshot)) {
            throw new IndexOutOfBoundsException();
        }
        return snapshots.get(snapshot);
    }

    private boolean shared(int page) {
        return snapshots.values().stream().anyMatch(a -> a.serials[page] == now.serials[page]);
    }

    private Content change(Id id) {
        if (shared(id.page())) {
            copied++;
            now.serials[id.page()] = ++lastSerial;
        }
        return now.entries.computeIfAbsent(id, x -> new Content());
    }

    private TreeSet<Long> risingKeys(int state) {
        exists(state);
        TreeSet<Long> keys = new TreeSet<>();
        for (Id id : now.entries.keySet()) {
            if (id.state == state && id.span == span) {
                keys.add(id.key);
            }
        }
        return keys;
    }

    private static List<Long> numbers(All all, Id id) {
        Content c = all.entries.get(id);
        return c == null ? List.of() : c.numbers();
    }

    private static long nth(List<Long> row, int i) {
        if (i < 0 || i >= row.size()) {
            throw new IndexOutOfBoundsException();
        }
        return row.get(i);
    }

    private static int foldInto(Content c, int type, long v) {
        if (c.folded == 0) {
            c.list.add(v);
        } else {
            long old = c.list.get(0);
            c.list.set(0, type == 0 ? old + v : type == 1 ? Math.min(old, v) : Math.max(old, v));
        }
        return ++c.folded;
    }

    private static boolean fits(int kind, int type, long v) {
        return kind == 3 || type == 0 || type == 1 && v >= -1000 && v <= 1000 || type == 2 && v >= 0;
    }
}
