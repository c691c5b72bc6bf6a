/** Objects to begin a test with, and what several tests do with them. */
final class Make {
    static final int VALUE = 0, LIST = 1, MAP = 2, FOLD = 3;
    static final int BAD = -1, NO = -3, FULL = -4;
    static final int LEAST = Integer.MIN_VALUE, MOST = Integer.MAX_VALUE;
    static final int MOST_ENTRIES = 150;

    private Make() {
    }

    /** States of these kinds and types, in pairs, named 100, 101 and so on; key 1 is at hand, in span 0. */
    static KeyStates states(int... kindsAndTypes) {
        KeyStates x = new KeyStates();
        for (int i = 0; i + 1 < kindsAndTypes.length; i += 2) {
            x.state(100 + i / 2, kindsAndTypes[i], kindsAndTypes[i + 1]);
        }
        x.key(1);
        return x;
    }

    /** One state of each kind, its number that of its kind, all of type 0. */
    static KeyStates eachKind() {
        return states(VALUE, 0, LIST, 0, MAP, 0, FOLD, 0);
    }

    /** One state of each kind, and so many entries of the first, of keys from 1000 on; key 1 is at hand. */
    static KeyStates with(int entries) {
        KeyStates x = eachKind();
        fill(x, entries);
        return x;
    }

    /** So many entries of state 0, a VALUE, of keys from 1000 on; key 1 is at hand then. */
    static void fill(KeyStates x, int entries) {
        for (int n = 0; n < entries; n++) {
            x.key(1000 + n);
            x.put(0, n);
        }
        x.key(1);
    }

    /** Writes a number the way the state's kind asks for; a map's member is 1. */
    static int write(KeyStates x, int state, long v) {
        switch (x.of(state, 1)) {
            case VALUE:
                return x.put(state, v);
            case LIST:
                return x.add(state, v);
            case MAP:
                return x.set(state, 1, v);
            default:
                return x.fold(state, v);
        }
    }

    /** Writes to one entry on each of the 16 pages: keys 0 .. 15 of state 0 lie on the pages 0 .. 15. */
    static void putOnAllPages(KeyStates x, long v) {
        for (int p = 0; p < 16; p++) {
            x.key(p);
            x.put(0, v);
        }
    }

    /** How often pages are copied by a call while a snapshot has them all. */
    static int copies(KeyStates x, Check.Call call) {
        int snapshot = x.snapshot();
        int before = x.told(4);
        call.go();
        int copied = x.told(4) - before;
        x.drop(snapshot);
        return copied;
    }

    /** The page of an entry: that of the key 0 .. 15 (of state 0, in span 0) whose page is not copied again for it. */
    static int pageOf(long key, int span, int state) {
        for (int page = 0; page < 16; page++) {
            KeyStates x = states(VALUE, 0, VALUE, 0, VALUE, 0, VALUE, 0, VALUE, 0, VALUE, 0, VALUE, 0, VALUE, 0);
            x.snapshot();
            x.key(page);
            x.put(0, 1);
            x.key(key);
            x.span(span);
            x.put(state, 2);
            if (x.told(4) == 1) {
                return page;
            }
        }
        return -1;
    }
}
