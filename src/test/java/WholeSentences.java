import java.util.ArrayList;
import java.util.List;

/** The promises 17 to 27: all keys, snapshots, moving, and what is told. */
final class WholeSentences {
    private static final int VALUE = Make.VALUE, LIST = Make.LIST, MAP = Make.MAP, FOLD = Make.FOLD;
    private static final int BAD = Make.BAD, NO = Make.NO, FULL = Make.FULL;
    private static final int LEAST = Make.LEAST, MOST = Make.MOST;

    private WholeSentences() {
    }

    static List<Sentence> all() {
        List<Sentence> all = new ArrayList<>();
        clearSpan(all);
        keysAndKeyAt(all);
        snapshotAndDrop(all);
        ask(all);
        entries(all);
        restore(all);
        move(all);
        of(all);
        told(all);
        return all;
    }

    private static void clearSpan(List<Sentence> all) {
        all.add(Sentence.promise(17, "All ENTRIES of the SPAN at hand go", c -> {
            KeyStates x = Make.eachKind();
            int[] spans = {0, 16, LEAST};
            for (int span : spans) {
                x.span(span);
                for (int k = 0; k < 18; k++) {
                    x.key(k);
                    x.put(0, k);
                }
                for (int s = 1; s < 4; s++) {
                    Make.write(x, s, 9);
                }
            }
            x.leave();
            x.clearSpan();
            c.is("none of the least span", 0, x.keys(0) + x.keys(1) + x.keys(2) + x.keys(3));
            c.is("all of the others", 42, x.told(1));
            x.span(16);
            x.clearSpan();
            x.span(0);
            c.is("one span is left", 21, x.told(1));
            c.is("with its keys", 18, x.keys(0));
            x.clearSpan();
            c.is("none is left", 0, x.told(1));
            c.is("nor a page", 0, x.told(5));
            c.is("the states stay", 4, x.told(0));
            c.is("the span stays", 0, x.span(0));
        },
            "if (rows[r] != null && rows[r].span == span) { rows[r] = null;",
                "if (rows[r] != null) { rows[r] = null;",
            "if (rows[r] != null && rows[r].span == span) { rows[r] = null;",
                "if (rows[r] != null && rows[r].span == span && rows[r].state == 0) { rows[r] = null;",
            "p < PAGES; p++) { if (now.pages[p].hasSpan", "p < PAGES - 1; p++) { if (now.pages[p].hasSpan",
            "cleared += pageToChange(p).loseSpan(spanAtHand);",
                "if (hasKey) { cleared += pageToChange(p).loseSpan(spanAtHand); }"));
        all.add(Sentence.promise(17, "how many.", c -> {
            KeyStates x = Make.with(150);
            c.is("150", 150, x.clearSpan());
            c.is("none any more", 0, x.clearSpan());
            x.put(0, 1);
            x.add(1, 1);
            x.add(1, 2);
            x.set(2, 1, 1);
            x.set(2, 2, 1);
            x.fold(3, 1);
            x.fold(3, 1);
            x.span(1);
            c.is("none in another span", 0, x.clearSpan());
            x.span(0);
            c.is("entries, not numbers", 4, x.clearSpan());
        },
            "lost++;", "lost += 2;",
            "return cleared;", "return Math.min(cleared, 100);",
            "lost++;", "lost = 1;"));
    }

    private static void keysAndKeyAt(List<Sentence> all) {
        all.add(Sentence.promise(18, "How many KEYS have an ENTRY of a STATE in the SPAN at hand.", c -> {
            KeyStates x = Make.eachKind();
            c.is("none", 0, x.keys(0));
            x.put(0, 1);
            x.put(0, 2);
            x.add(1, 1);
            x.key(17);
            x.put(0, 1);
            x.span(16);
            x.put(0, 1);
            c.is("span 16", 1, x.keys(0));
            c.is("span 16, another state", 0, x.keys(1));
            x.span(0);
            x.leave();
            c.is("span 0", 2, x.keys(0));
            c.is("span 0, another state", 1, x.keys(1));
            c.is("span 0, a third", 0, x.keys(2));
            x.clearSpan();
            c.is("cleared", 0, x.keys(0));
            KeyStates y = Make.with(150);
            c.is("150", 150, y.keys(0));
            c.is("none of another state", 0, y.keys(3));
        },
            "rows[r].state == state && rows[r].span == span) { int at", "rows[r].state == state) { int at",
            "rows[r].state == state && rows[r].span == span) { int at", "rows[r].span == span) { int at",
            "return sortKeys(state);", "return Math.min(149, sortKeys(state));",
            "return sortKeys(state);", "return now.countEntriesOf(state);"));
        all.add(Sentence.promise(19, "The i-th of these, by rising ones.", c -> {
            KeyStates x = Make.eachKind();
            long[] keys = {3, Long.MAX_VALUE, -3, Long.MIN_VALUE, 0, 1L << 32, -1, -(1L << 32)};
            for (long key : keys) {
                x.key(key);
                x.put(0, 1);
            }
            x.key(-2);
            x.add(1, 1);
            x.span(16);
            x.put(0, 1);
            x.span(0);
            x.leave();
            java.util.Arrays.sort(keys);
            for (int n = 0; n < keys.length; n++) {
                c.is("key " + n, keys[n], x.keyAt(0, n));
            }
            c.is("another state's", -2, x.keyAt(1, 0));
            KeyStates y = Make.eachKind();
            for (int n = 0; n < 150; n++) {
                y.key(n % 2 == 0 ? -n : n);
                y.put(0, n);
            }
            c.is("the least of 150", -148, y.keyAt(0, 0));
            c.is("the middle", 0, y.keyAt(0, 74));
            c.is("the greatest", 149, y.keyAt(0, 149));
        },
            "row[at] < x) {", "row[at] - x < 0) {",
            "row[at] < x) {", "false) {",
            "return risingKeys[i];", "return (int) risingKeys[i];",
            "r < rows.length && sorted < rising.length; r++", "r < rows.length && sorted + 1 < rising.length; r++"));
        all.add(Sentence.promise(19, "IndexOutOfBoundsException: also none such.", c -> {
            KeyStates x = Make.eachKind();
            c.outOfBounds("no keys", () -> x.keyAt(0, 0));
            Make.fill(x, 150);
            c.is("the last", 1149, x.keyAt(0, 149));
            for (int i : new int[] {150, 151, -1, LEAST, MOST}) {
                c.outOfBounds("key " + i, () -> x.keyAt(0, i));
            }
            c.outOfBounds("another state has none, whatever was found before", () -> x.keyAt(1, 0));
            x.span(1);
            c.outOfBounds("another span has none", () -> x.keyAt(0, 0));
            c.outOfBounds("no such state", () -> x.keyAt(4, 0));
        },
            "if (i < 0 || i >= count) {", "if (i >= count) {",
            "if (i < 0 || i >= count) {", "if (i < 0 || i > count) {",
            "if (i < 0 || i >= count) {", "if (i < 0 || i >= MOST_ENTRIES) {",
            "throw new IndexOutOfBoundsException(\"no such key\");", "throw new NoSuchElementException();"));
    }

    private static void snapshotAndDrop(List<Sentence> all) {
        all.add(Sentence.promise(20, "A SNAPSHOT is taken", c -> {
            KeyStates x = Make.eachKind();
            x.put(0, 5);
            int s = x.snapshot();
            x.put(0, 6);
            x.key(2);
            x.put(0, 7);
            c.is("one is there", 1, x.told(2));
            c.is("it has what was", 5, x.ask(s, 0, 1, 0, 0));
            c.noElement("not what came later", () -> x.ask(s, 0, 2, 0, 0));
            c.is("one entry", 1, x.entries(s, 0));
            c.is("now there are two", 2, x.entries(-1, 0));
        },
            "snapshots[slot] = picture;", "",
            "pages[p].holders++;", ""));
        all.add(Sentence.promise(20, "its number (they are numbered as they are taken)", c -> {
            KeyStates x = Make.eachKind();
            for (int n = 0; n < 4; n++) {
                c.is("snapshot " + n, n, x.snapshot());
            }
            x.drop(3);
            c.is("a number is not given twice", 4, x.snapshot());
            x.drop(0);
            x.drop(1);
            x.restore(2);
            c.is("nor that of an older one", 5, x.snapshot());
            c.is("nor then", 6, x.snapshot());
            for (int n = 7; n < 60; n++) {
                x.drop(n - 1);
                c.is("and so on", n, x.snapshot());
            }
        },
            "now.taken(snapshotsTaken)", "now.taken(slot)",
            "now.taken(snapshotsTaken)", "now.taken(countSnapshots())",
            "snapshotsTaken++;", ""));
        all.add(Sentence.promise(20, "FULL: 6 are there.", c -> {
            KeyStates x = Make.eachKind();
            for (int n = 0; n < 5; n++) {
                x.snapshot();
            }
            c.is("the sixth", 5, x.snapshot());
            c.is("a seventh", FULL, x.snapshot());
            c.is("six are there", 6, x.told(2));
            x.drop(2);
            c.is("one has gone: room, and no number was lost", 6, x.snapshot());
            c.is("but for one", FULL, x.snapshot());
            x.restore(0);
            c.is("restoring makes no room", FULL, x.snapshot());
        },
            "MOST_SNAPSHOTS = 6", "MOST_SNAPSHOTS = 5",
            "MOST_SNAPSHOTS = 6", "MOST_SNAPSHOTS = 7",
            "return FULL; } public int drop", "return NO; } public int drop",
            "return FULL; } public int drop", "snapshotsTaken++; return FULL; } public int drop"));
        all.add(Sentence.promise(21, "A SNAPSHOT goes", c -> {
            KeyStates x = Make.eachKind();
            x.put(0, 5);
            x.snapshot();
            x.put(0, 6);
            x.snapshot();
            x.put(0, 7);
            x.drop(0);
            c.is("one is there", 1, x.told(2));
            c.outOfBounds("asking it", () -> x.ask(0, 0, 1, 0, 0));
            c.outOfBounds("counting its entries", () -> x.entries(0, 0));
            c.outOfBounds("restoring it", () -> x.restore(0));
            c.outOfBounds("dropping it again", () -> x.drop(0));
            for (int wrong : new int[] {-1, -2, 2, 6, LEAST, MOST}) {
                c.outOfBounds("dropping " + wrong, () -> x.drop(wrong));
            }
            c.is("the other stays", 6, x.ask(1, 0, 1, 0, 0));
            c.is("what is now stays", 7, x.value(0));
        },
            "snapshots[slot] = null; return now", "return now",
            "snapshots[slot] = null; return now", "snapshots[0] = null; snapshots[1] = null; return now",
            "throw new IndexOutOfBoundsException(\"no such snapshot\");", "return now;"));
        all.add(Sentence.promise(21, "how many PAGES are SHARED then.", c -> {
            KeyStates x = Make.eachKind();
            x.snapshot();
            c.is("none with none", 0, x.drop(0));
            x.snapshot();
            x.snapshot();
            c.is("all with the other", 16, x.drop(1));
            x.put(0, 1);
            x.snapshot();
            x.key(2);
            x.put(0, 1);
            x.snapshot();
            x.key(3);
            x.put(0, 1);
            c.is("the last has all but one", 15, x.drop(2));
            c.is("the one before has all but two", 14, x.drop(4));
            c.is("none is left", 0, x.drop(3));
        },
            "return now.countShared(); } public long ask", "return PAGES - now.countShared(); } public long ask",
            "snapshotIn(slot).releasePages();", "",
            "int slot = slotOf(snapshot); snapshotIn(slot).releasePages(); snapshots[slot] = null; return now.countShared();",
                "int slot = slotOf(snapshot); int shared = now.countShared(); snapshotIn(slot).releasePages(); snapshots[slot] = null; return shared;",
            "pages[p].holders--;", "pages[p].holders = 0;"));
    }

    private static KeyStates oneEntryOfEachKind() {
        KeyStates x = Make.eachKind();
        x.span(3);
        x.put(0, 10);
        x.add(1, 20);
        x.add(1, 19);
        x.set(2, 5, 50);
        x.set(2, -5, 40);
        x.fold(3, 7);
        x.fold(3, 6);
        return x;
    }

    private static void ask(List<Sentence> all) {
        all.add(Sentence.promise(22, "Number i (VALUE, FOLD: 0; LIST; MAP: by rising MEMBERS)", c -> {
            KeyStates x = oneEntryOfEachKind();
            x.leave();
            x.span(0);
            c.is("a value", 10, x.ask(-1, 0, 1, 3, 0));
            c.is("a list's first", 20, x.ask(-1, 1, 1, 3, 0));
            c.is("a list's second", 19, x.ask(-1, 1, 1, 3, 1));
            c.is("a map's first", 40, x.ask(-1, 2, 1, 3, 0));
            c.is("a map's second", 50, x.ask(-1, 2, 1, 3, 1));
            c.is("a fold", 13, x.ask(-1, 3, 1, 3, 0));
            KeyStates y = Make.eachKind();
            for (int n = 9; n >= 0; n--) {
                y.add(1, n);
                y.set(2, n, -n);
            }
            c.is("the tenth of a list", 0, y.ask(-1, 1, 1, 0, 9));
            c.is("the tenth of a map", -9, y.ask(-1, 2, 1, 0, 9));
        },
            "return numbers[i];", "return numbers[0];",
            "row[at] < x) {", "row[at] > x) {",
            "Picture picture = pictureOf(snapshot); needState(state); long[]",
                "Picture picture = pictureOf(snapshot); needState(state); needKey(); long[]"));
        all.add(Sentence.promise(22, "of an ENTRY as a SNAPSHOT has it (-1: as it is now).", c -> {
            KeyStates x = oneEntryOfEachKind();
            x.snapshot();
            x.put(0, 11);
            x.add(1, 18);
            x.set(2, -6, 30);
            x.fold(3, 8);
            x.snapshot();
            x.clearSpan();
            long[] then = {10, 20, 40, 13};
            long[] later = {11, 20, 30, 21};
            for (int s = 0; s < 4; s++) {
                int state = s;
                c.is("then, of kind " + s, then[s], x.ask(0, s, 1, 3, 0));
                c.is("later, of kind " + s, later[s], x.ask(1, s, 1, 3, 0));
                c.noElement("now, of kind " + s, () -> x.ask(-1, state, 1, 3, 0));
            }
            x.put(0, 12);
            c.is("now", 12, x.ask(-1, 0, 1, 3, 0));
            x.move(0, LIST, 0);
            c.is("then, though it was moved since", 10, x.ask(0, 0, 1, 3, 0));
        },
            "return snapshot == NOW ? now : snapshotIn(slotOf(snapshot));", "return now;",
            "return snapshot == NOW ? now : snapshotIn(slotOf(snapshot));",
                "return snapshot == NOW ? now : snapshotIn(0);",
            "pages[p].holders++;", ""));
        all.add(Sentence.promise(22, "NoSuchElementException: there is no such ENTRY, number.", c -> {
            KeyStates x = oneEntryOfEachKind();
            x.snapshot();
            x.state(9, VALUE, 0);
            int[] sizes = {1, 2, 2, 1};
            for (int snapshot = -1; snapshot <= 0; snapshot++) {
                int snap = snapshot;
                for (int s = 0; s < 4; s++) {
                    int state = s;
                    for (int i : new int[] {-1, sizes[s], 10, LEAST, MOST}) {
                        c.noElement("number " + i + " of kind " + s, () -> x.ask(snap, state, 1, 3, i));
                    }
                    c.noElement("another key", () -> x.ask(snap, state, 17, 3, 0));
                    c.noElement("another span", () -> x.ask(snap, state, 1, 19, 0));
                }
                c.noElement("a state told later", () -> x.ask(snap, 4, 1, 3, 0));
            }
            c.outOfBounds("no such state", () -> x.ask(0, 5, 1, 3, 0));
            c.outOfBounds("no such snapshot", () -> x.ask(1, 0, 1, 3, 0));
            c.outOfBounds("snapshot -2", () -> x.ask(-2, 0, 1, 3, 0));
        },
            "if (i < 0 || i >= numbers.length) {", "if (i >= numbers.length) {",
            "if (i < 0 || i >= numbers.length) {", "if (i < 0 || i > numbers.length) {",
            "throw new NoSuchElementException(\"no such entry or number\");",
                "throw new IndexOutOfBoundsException();",
            "throw new NoSuchElementException(\"no such entry or number\");", "return 0;",
            "needState(state); long[] numbers",
                "if (state < 0 || state >= picture.stateCount) { throw new IndexOutOfBoundsException(); } long[] numbers"));
    }

    private static void entries(List<Sentence> all) {
        all.add(Sentence.promise(23, "How many ENTRIES of a STATE a SNAPSHOT has", c -> {
            KeyStates x = oneEntryOfEachKind();
            x.span(0);
            x.put(0, 1);
            x.key(17);
            x.put(0, 1);
            x.snapshot();
            x.clearSpan();
            x.snapshot();
            x.state(9, VALUE, 0);
            c.is("values, of all keys and spans", 3, x.entries(0, 0));
            c.is("entries, not numbers", 1, x.entries(0, 1));
            c.is("entries of a fold", 1, x.entries(0, 3));
            c.is("the later one", 1, x.entries(1, 0));
            c.is("a state told later has none", 0, x.entries(0, 4));
            for (int wrong : new int[] {2, -2, LEAST, MOST}) {
                c.outOfBounds("snapshot " + wrong, () -> x.entries(wrong, 0));
            }
            c.outOfBounds("no such state", () -> x.entries(0, 5));
            KeyStates y = Make.with(150);
            y.snapshot();
            y.clearSpan();
            c.is("150", 150, y.entries(0, 0));
            c.is("none of another", 0, y.entries(0, 1));
        },
            "return picture.countEntriesOf(state);", "return now.countEntriesOf(state);",
            "return picture.countEntriesOf(state);", "return picture.countEntries();",
            "needState(state); return picture.countEntriesOf(state);",
                "if (state < 0 || state >= picture.stateCount) { throw new IndexOutOfBoundsException(); } return picture.countEntriesOf(state);"));
        all.add(Sentence.promise(23, "(-1: there are now).", c -> {
            KeyStates x = Make.eachKind();
            c.is("none", 0, x.entries(-1, 0));
            x.put(0, 1);
            x.snapshot();
            x.span(1);
            x.put(0, 1);
            c.is("two now", 2, x.entries(-1, 0));
            x.clearSpan();
            x.leave();
            c.is("one now", 1, x.entries(-1, 0));
            c.is("none of another state", 0, x.entries(-1, 1));
            c.outOfBounds("no such state", () -> x.entries(-1, 4));
            c.outOfBounds("state -1", () -> x.entries(-1, -1));
            KeyStates y = Make.with(150);
            c.is("150", 150, y.entries(-1, 0));
        },
            "return snapshot == NOW ? now : snapshotIn(slotOf(snapshot));", "return snapshotIn(slotOf(snapshot));",
            "return snapshot == NOW ? now : snapshotIn(slotOf(snapshot));",
                "return snapshot == NOW && countSnapshots() == 0 ? now : snapshotIn(Math.max(0, slotOf(snapshot)));"));
    }

    private static void restore(List<Sentence> all) {
        all.add(Sentence.promise(24, "All ENTRIES are as a SNAPSHOT has them", c -> {
            KeyStates x = oneEntryOfEachKind();
            x.snapshot();
            x.clearSpan();
            x.span(0);
            Make.putOnAllPages(x, 1);
            x.snapshot();
            x.restore(0);
            c.is("the four", 4, x.told(1));
            c.is("nothing that came later", 0, x.keys(0));
            x.key(1);
            x.span(3);
            c.is("the value", 10, x.value(0));
            c.is("the list", 19, x.item(1, 1));
            c.is("the map", 40, x.get(2, -5));
            c.is("the fold", 13, x.value(3));
            c.is("how many were folded", 2, x.size(3));
            x.put(0, 99);
            c.is("the snapshot stays as it is", 10, x.ask(0, 0, 1, 3, 0));
            x.restore(1);
            c.is("the other one's", 16, x.told(1));
            x.restore(0);
            c.is("the first one's once more", 10, x.value(0));
            for (int wrong : new int[] {-1, 2, LEAST, MOST}) {
                c.outOfBounds("restoring " + wrong, () -> x.restore(wrong));
            }
        },
            "now.becomeLike(snapshotIn(slotOf(snapshot)));", "",
            "pages[p] = other.pages[p];", "if (other.pages[p].countEntries() > 0) { pages[p] = other.pages[p]; }",
            "now.becomeLike(snapshotIn(slotOf(snapshot)));", "now.becomeLike(snapshotIn(0));",
            "now.becomeLike(snapshotIn(slotOf(snapshot)));", "now.becomeLike(pictureOf(snapshot));"));
        all.add(Sentence.promise(24, "(KINDS and TYPES, too, of the STATES that there were", c -> {
            KeyStates x = Make.states(VALUE, 1, LIST, 2);
            x.put(0, 5);
            x.snapshot();
            x.state(9, VALUE, 0);
            x.move(0, FOLD, 2);
            x.move(1, FOLD, 0);
            x.move(2, LIST, 2);
            x.restore(0);
            c.is("the kind", VALUE, x.of(0, 1));
            c.is("the type", 1, x.of(0, 2));
            c.is("the kind of one without entries", LIST, x.of(1, 1));
            c.is("its type", 2, x.of(1, 2));
            c.is("it is a value again", 5, x.value(0));
            c.badArgument("what fits it is as it was", () -> x.put(0, 1001));
            c.is("it is told as it was", 0, x.state(100, VALUE, 1));
            c.is("not as it was later", NO, x.state(100, FOLD, 2));
            c.is("one told later keeps its kind", LIST, x.of(2, 1));
            c.is("and its type", 2, x.of(2, 2));
        },
            "kinds[s] = other.kinds[s];", "",
            "types[s] = other.types[s];", "",
            "s < other.stateCount; s++", "s < MOST_STATES; s++"));
        all.add(Sentence.promise(24, "those told later have no ENTRIES)", c -> {
            KeyStates x = Make.states(VALUE, 0);
            x.put(0, 5);
            x.snapshot();
            for (int n = 1; n < 8; n++) {
                x.state(n, n % 4, 0);
                Make.write(x, n, 1);
            }
            c.is("eight entries", 8, x.told(1));
            c.is("one", 1, x.restore(0));
            c.is("eight states", 8, x.told(0));
            for (int n = 1; n < 8; n++) {
                c.is("none of state " + n, 0, x.entries(-1, n));
                c.is("which is there", n, x.of(n, 0));
                c.is("and can be written", 1, Make.write(x, n, 1));
            }
            c.is("a ninth is not", FULL, x.state(8, 0, 0));
            KeyStates y = Make.states(VALUE, 0);
            y.snapshot();
            y.state(5, VALUE, 0);
            y.put(1, 3);
            y.snapshot();
            y.restore(0);
            y.restore(1);
            c.is("but in a later snapshot they have", 3, y.value(1));
        },
            "pages[p] = other.pages[p];", "if (pages[p].countEntriesOf(1) == 0) { pages[p] = other.pages[p]; }",
            "for (int s = 0; s < other.stateCount; s++)",
                "stateCount = other.stateCount; for (int s = 0; s < other.stateCount; s++)"));
        all.add(Sentence.promise(24, "how many.", c -> {
            KeyStates x = Make.eachKind();
            x.snapshot();
            Make.fill(x, 150);
            x.snapshot();
            c.is("none", 0, x.restore(0));
            c.is("150", 150, x.restore(1));
            c.is("150 again", 150, x.restore(1));
            x.key(2);
            c.is("which are full", FULL, x.put(0, 1));
            x.restore(0);
            x.add(1, 1);
            x.add(1, 1);
            x.snapshot();
            c.is("entries, not numbers", 1, x.restore(2));
        },
            "(slotOf(snapshot))); return now.countEntries();", "(slotOf(snapshot))); return now.countNumbers();",
            "(slotOf(snapshot))); return now.countEntries();", "(slotOf(snapshot))); return now.countEntriesOf(1);",
            "(slotOf(snapshot))); return now.countEntries();",
                "(slotOf(snapshot))); return Math.min(149, now.countEntries());"));
        all.add(Sentence.promise(24, "What is at hand, the SNAPSHOTS stay.", c -> {
            KeyStates x = Make.eachKind();
            x.snapshot();
            x.key(8);
            x.span(-4);
            x.snapshot();
            x.put(0, 1);
            x.snapshot();
            x.restore(0);
            c.is("an entry of the key and span at hand", 1, x.put(0, 5));
            c.is("is there", 5, x.ask(-1, 0, 8, -4, 0));
            c.is("the span", -4, x.span(6));
            c.isTrue("the key", x.leave());
            x.restore(2);
            c.isFalse("no key stays no key", x.leave());
            c.is("the span again", 6, x.span(6));
            c.is("the snapshots", 3, x.told(2));
            c.is("the later one too", 1, x.ask(2, 0, 8, -4, 0));
            c.is("the next one's number", 3, x.snapshot());
        },
            "now.becomeLike(snapshotIn(slotOf(snapshot)));",
                "now.becomeLike(snapshotIn(slotOf(snapshot))); hasKey = false;",
            "now.becomeLike(snapshotIn(slotOf(snapshot)));",
                "now.becomeLike(snapshotIn(slotOf(snapshot))); hasKey = true;",
            "now.becomeLike(snapshotIn(slotOf(snapshot)));",
                "now.becomeLike(snapshotIn(slotOf(snapshot))); spanAtHand = 0;",
            "now.becomeLike(snapshotIn(slotOf(snapshot)));",
                "now.becomeLike(snapshotIn(slotOf(snapshot))); snapshots[2] = null;"));
    }

    private static void move(List<Sentence> all) {
        all.add(Sentence.promise(25, "MOVED: how many ENTRIES.", c -> {
            KeyStates x = Make.with(150);
            x.leave();
            c.is("150", 150, x.move(0, LIST, 2));
            c.is("150 as they are", 150, x.move(0, LIST, 0));
            c.is("none of another state", 0, x.move(2, LIST, 1));
            c.is("its kind", LIST, x.of(2, 1));
            c.is("its type", 1, x.of(2, 2));
            x.clearSpan();
            c.is("none any more", 0, x.move(0, FOLD, 1));
            KeyStates y = oneEntryOfEachKind();
            y.span(0);
            y.add(1, 1);
            c.is("entries of all spans, not numbers", 2, y.move(1, LIST, 0));
            c.is("also when these are folded", 2, y.move(1, FOLD, 0));
            c.outOfBounds("no such state", () -> y.move(4, 0, 0));
            c.outOfBounds("state -1", () -> y.move(-1, 0, 0));
        },
            "moved++;", "moved = 1;",
            "return moved; } public int of", "return Math.min(100, moved); } public int of",
            "moved++;", "moved += rows[r].numbers.length;",
            "now.kinds[state] = kind;", "if (moved > 0) { now.kinds[state] = kind; }"));
        all.add(Sentence.promise(25, "BAD: no such KIND, TYPE", c -> {
            KeyStates x = Make.states(VALUE, 1, FOLD, 1);
            x.put(0, 5);
            for (int wrong : new int[] {-1, 4, LEAST, MOST}) {
                c.is("kind " + wrong, BAD, x.move(0, wrong, 0));
            }
            for (int wrong : new int[] {-1, 3, LEAST, MOST}) {
                c.is("type " + wrong, BAD, x.move(0, LIST, wrong));
                c.is("type " + wrong + " of a fold", BAD, x.move(0, FOLD, wrong));
                c.is("type " + wrong + " where it is NO too", BAD, x.move(1, MAP, wrong));
            }
            c.is("the kind stays", VALUE, x.of(0, 1));
            c.is("the type stays", 1, x.of(0, 2));
            c.is("the number stays", 5, x.value(0));
        },
            "KINDS = 4", "KINDS = 5",
            "TYPES = 3", "TYPES = 4",
            "kind >= 0 &&", "kind >= -1 &&",
            "type >= 0 &&", "type >= -1 &&",
            "needState(state); if (!isKindAndType(kind, type)) { return BAD; }",
                "needState(state); if (!canMove(now.kinds[state], kind)) { return NO; } if (!isKindAndType(kind, type)) { return BAD; }"));
        all.add(Sentence.promise(25, "NO.", c -> {
            KeyStates x = oneEntryOfEachKind();
            c.is("a kind it can't be moved to", NO, x.move(0, MAP, 0));
            c.is("a list to a value", NO, x.move(1, VALUE, 0));
            c.is("a map to a fold", NO, x.move(2, FOLD, 0));
            c.is("a fold to a list", NO, x.move(3, LIST, 0));
            c.is("a fold to itself", NO, x.move(3, FOLD, 0));
            x.put(0, -1);
            c.is("a number that would not fit", NO, x.move(0, VALUE, 2));
            c.is("the number stays", -1, x.value(0));
            c.is("the type stays", 0, x.of(0, 2));
            x.put(0, 0);
            c.is("one that does", 1, x.move(0, VALUE, 2));
        },
            "return NO; } int moved", "return BAD; } int moved",
            "return NO; } int moved", "return 0; } int moved",
            "!canMove(now.kinds[state], kind) ||", "",
            "|| !now.allFit(state, kind, type)", ""));
    }

    private static void of(List<Sentence> all) {
        all.add(Sentence.promise(26, "Of a STATE: what = 0 NAME, 1 KIND, 2 TYPE.", c -> {
            KeyStates x = new KeyStates();
            x.state(LEAST, FOLD, 1);
            x.state(MOST, MAP, 2);
            x.state(0, LIST, 0);
            int[][] due = {{LEAST, FOLD, 1}, {MOST, MAP, 2}, {0, LIST, 0}};
            for (int s = 0; s < 3; s++) {
                for (int what = 0; what < 3; what++) {
                    c.is("of(" + s + ", " + what + ")", due[s][what], x.of(s, what));
                }
            }
            x.move(1, LIST, 1);
            c.is("the name after a move", MOST, x.of(1, 0));
            c.is("the kind then", LIST, x.of(1, 1));
            c.is("the type then", 1, x.of(1, 2));
        },
            "return names[state];", "return state;",
            "return now.kinds[state];", "return now.types[state];",
            "return now.types[state];", "return now.kinds[state];",
            "return names[state];", "return names[0];"));
        all.add(Sentence.promise(26, "IndexOutOfBoundsException: also another what.", c -> {
            KeyStates x = Make.eachKind();
            for (int what : new int[] {3, -1, 4, LEAST, MOST}) {
                c.outOfBounds("what " + what, () -> x.of(0, what));
            }
            for (int state : new int[] {4, -1, 8, LEAST, MOST}) {
                c.outOfBounds("state " + state, () -> x.of(state, 0));
            }
        },
            "throw new IndexOutOfBoundsException(\"no such thing of a state\");", "return BAD;",
            "throw new IndexOutOfBoundsException(\"no such thing of a state\");",
                "throw new IllegalArgumentException();",
            "default: throw new IndexOutOfBoundsException(\"no such thing of a state\");",
                "case 3: return 0; default: throw new IndexOutOfBoundsException(\"no such thing of a state\");"));
    }

    private static void told(List<Sentence> all) {
        all.add(Sentence.promise(27, "0 STATES", c -> {
            KeyStates x = new KeyStates();
            c.is("none", 0, x.told(0));
            for (int n = 0; n < 8; n++) {
                x.state(n, VALUE, 0);
                c.is("so many", n + 1, x.told(0));
            }
            x.state(0, VALUE, 0);
            x.state(9, VALUE, 0);
            c.is("eight at most", 8, x.told(0));
            KeyStates y = new KeyStates();
            y.snapshot();
            y.state(1, VALUE, 0);
            y.restore(0);
            c.is("restoring takes none away", 1, y.told(0));
        },
            "return now.stateCount;", "return MOST_STATES;",
            "return now.stateCount;", "return Math.min(7, now.stateCount);"));
        all.add(Sentence.promise(27, "1 ENTRIES", c -> {
            KeyStates x = oneEntryOfEachKind();
            c.is("one of each kind", 4, x.told(1));
            x.span(0);
            x.put(0, 1);
            c.is("of all spans", 5, x.told(1));
            x.clear(0);
            c.is("one has gone", 4, x.told(1));
            KeyStates y = Make.with(150);
            y.put(0, 1);
            c.is("150 at most", 150, y.told(1));
        },
            "return now.countEntries(); case 2", "return now.countNumbers(); case 2",
            "return now.countEntries(); case 2", "return now.countEntriesOf(0); case 2"));
        all.add(Sentence.promise(27, "2 SNAPSHOTS that are there", c -> {
            KeyStates x = Make.eachKind();
            c.is("none", 0, x.told(2));
            for (int n = 0; n < 7; n++) {
                x.snapshot();
            }
            c.is("six at most", 6, x.told(2));
            x.drop(0);
            x.drop(5);
            c.is("two have gone", 4, x.told(2));
            x.restore(1);
            c.is("restoring leaves them", 4, x.told(2));
            x.snapshot();
            c.is("one more", 5, x.told(2));
        },
            "return countSnapshots();", "return snapshotsTaken;",
            "return countSnapshots();", "return Math.min(5, countSnapshots());"));
        all.add(Sentence.promise(27, "3 PAGES that are SHARED", c -> {
            KeyStates x = Make.eachKind();
            c.is("none", 0, x.told(3));
            x.snapshot();
            x.snapshot();
            c.is("all, each once", 16, x.told(3));
            x.put(0, 1);
            c.is("one changed", 15, x.told(3));
            x.put(0, 2);
            c.is("it changed again", 15, x.told(3));
            x.snapshot();
            c.is("all again", 16, x.told(3));
            x.drop(0);
            x.drop(1);
            x.drop(2);
            c.is("none again", 0, x.told(3));
        },
            "return now.countShared(); case 4", "return countSnapshots() > 0 ? PAGES : 0; case 4",
            "return now.countShared(); case 4", "return PAGES - now.countShared(); case 4"));
        all.add(Sentence.promise(27, "4 how often one was COPIED", c -> {
            KeyStates x = Make.eachKind();
            x.put(0, 0);
            c.is("never", 0, x.told(4));
            for (int n = 1; n <= 20; n++) {
                x.snapshot();
                x.put(0, n);
                x.put(0, n);
                c.is("so often", n, x.told(4));
                x.drop(n - 1);
            }
            c.is("dropping counts nothing back", 20, x.told(4));
            x.snapshot();
            Make.putOnAllPages(x, 1);
            c.is("all sixteen", 36, x.told(4));
            x.restore(20);
            c.is("restoring copies none", 36, x.told(4));
        },
            "return pagesCopied;", "return Math.min(16, pagesCopied);",
            "pagesCopied++;", "pagesCopied = 1;",
            "now.becomeLike(snapshotIn(slotOf(snapshot)));",
                "now.becomeLike(snapshotIn(slotOf(snapshot))); pagesCopied++;"));
        all.add(Sentence.promise(27, "5 PAGES with ENTRIES", c -> {
            KeyStates x = Make.eachKind();
            c.is("none", 0, x.told(5));
            Make.putOnAllPages(x, 1);
            c.is("all", 16, x.told(5));
            x.key(16);
            x.put(0, 1);
            c.is("two entries on one", 16, x.told(5));
            x.clear(0);
            c.is("one of them has gone", 16, x.told(5));
            x.key(0);
            x.clear(0);
            c.is("both have", 15, x.told(5));
            x.snapshot();
            x.clearSpan();
            c.is("none, whatever a snapshot has", 0, x.told(5));
        },
            "return now.countPagesInUse();", "return PAGES;",
            "return now.countPagesInUse();", "return Math.min(15, now.countPagesInUse());",
            "if (pages[p].countEntries() > 0) {", "if (pages[p].countEntries() > 1) {"));
        all.add(Sentence.promise(27, "6 numbers of all ENTRIES together (FOLD: one each).", c -> {
            KeyStates x = oneEntryOfEachKind();
            c.is("1 and 2 and 2 and 1", 6, x.told(6));
            x.fold(3, 1);
            x.put(0, 1);
            x.set(2, 5, 1);
            c.is("no more", 6, x.told(6));
            x.move(1, FOLD, 0);
            c.is("a list folded", 5, x.told(6));
            x.remove(2, 5);
            c.is("a member removed", 4, x.told(6));
            x.clearSpan();
            c.is("none", 0, x.told(6));
            KeyStates y = Make.eachKind();
            for (int n = 0; n < 200; n++) {
                y.key(n / 10);
                y.add(1, n);
            }
            c.is("twenty lists of ten", 200, y.told(6));
        },
            "count += rows[r].numbers.length;",
                "count += rows[r].folded > 0 ? rows[r].folded : rows[r].numbers.length;",
            "count += rows[r].numbers.length;", "count++;",
            "return now.countNumbers();", "return Math.min(150, now.countNumbers());"));
        all.add(Sentence.promise(27, "BAD: another what.", c -> {
            KeyStates x = Make.eachKind();
            for (int what : new int[] {7, -1, 8, LEAST, MOST}) {
                c.is("what " + what, BAD, x.told(what));
            }
        },
            "return now.countNumbers(); default: return BAD;", "return now.countNumbers(); default: return 0;",
            "return now.countNumbers(); default: return BAD;",
                "return now.countNumbers(); case 7: return 0; default: return BAD;",
            "return now.countNumbers(); default: return BAD;",
                "return now.countNumbers(); default: throw new IndexOutOfBoundsException();"));
    }
}
