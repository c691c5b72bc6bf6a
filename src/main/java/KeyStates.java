import java.util.Arrays;
import java.util.NoSuchElementException;

/** What an operator keeps for each key; the promises it keeps are numbered in the project's document. */
public final class KeyStates {
    public static final int BAD = -1, NO = -3, FULL = -4;

    private static final int VALUE = 0, LIST = 1, MAP = 2, FOLD = 3;
    private static final int KINDS = 4, TYPES = 3;
    private static final int SUM = 0, LEAST = 1;
    private static final int MOST_STATES = 8, MOST_ENTRIES = 150, MOST_NUMBERS = 10, MOST_SNAPSHOTS = 6;
    private static final int PAGES = 16, FIRST_ROWS = 4;
    private static final int NOW = -1, NONE_FOUND = -1;
    private static final long[] EMPTY = {};

    private final int[] names = new int[MOST_STATES];
    private final Picture now = new Picture();
    private final Picture[] snapshots = new Picture[MOST_SNAPSHOTS];
    private final long[] risingKeys = new long[MOST_ENTRIES];
    private int snapshotsTaken = 0;
    private int pagesCopied = 0;
    private boolean hasKey = false;
    private long keyAtHand = 0;
    private int spanAtHand = 0;

    public KeyStates() {
    }

    public int state(int name, int kind, int type) {
        if (!isKindAndType(kind, type)) {
            return BAD;
        }
        for (int s = 0; s < now.stateCount; s++) {
            if (names[s] == name) {
                return now.kinds[s] == kind && now.types[s] == type ? s : NO;
            }
        }
        if (now.stateCount >= MOST_STATES) {
            return FULL;
        }
        names[now.stateCount] = name;
        return now.tellState(kind, type);
    }

    public void key(long key) {
        hasKey = true;
        keyAtHand = key;
    }

    public boolean leave() {
        boolean had = hasKey;
        hasKey = false;
        return had;
    }

    public int span(int span) {
        int before = spanAtHand;
        spanAtHand = span;
        return before;
    }

    // ---- the entry at hand

    public int put(int state, long v)
            throws IndexOutOfBoundsException, IllegalArgumentException, IllegalStateException {
        needToWrite(state, VALUE, v);
        Entry old = entryAtHand(state);
        if (hasNoRoomFor(old)) {
            return FULL;
        }
        keep(old.withOnly(v));
        return old.isNone() ? 1 : 0;
    }

    public long value(int state)
            throws IndexOutOfBoundsException, IllegalArgumentException, IllegalStateException,
            NoSuchElementException {
        needToRead(state, VALUE, FOLD);
        Entry entry = entryAtHand(state);
        if (entry.isNone()) {
            throw new NoSuchElementException("there is no entry");
        }
        return entry.numbers[0];
    }

    public int add(int state, long v)
            throws IndexOutOfBoundsException, IllegalArgumentException, IllegalStateException {
        needToWrite(state, LIST, v);
        Entry old = entryAtHand(state);
        if (old.numbers.length >= MOST_NUMBERS || hasNoRoomFor(old)) {
            return FULL;
        }
        keep(old.withOneMore(v));
        return old.numbers.length + 1;
    }

    public long item(int state, int i)
            throws IndexOutOfBoundsException, IllegalArgumentException, IllegalStateException {
        needToRead(state, LIST, MAP);
        return numberAt(entryAtHand(state).numbers, i);
    }

    public int set(int state, long member, long v)
            throws IndexOutOfBoundsException, IllegalArgumentException, IllegalStateException {
        needToWrite(state, MAP, v);
        Entry old = entryAtHand(state);
        int at = old.placeOf(member);
        if (old.hasMember(at, member)) {
            keep(old.withNumberAt(at, v));
            return 0;
        }
        if (old.members.length >= MOST_NUMBERS || hasNoRoomFor(old)) {
            return FULL;
        }
        keep(old.withMember(at, member, v));
        return 1;
    }

    public long get(int state, long member)
            throws IndexOutOfBoundsException, IllegalArgumentException, IllegalStateException,
            NoSuchElementException {
        needToRead(state, MAP, MAP);
        Entry entry = entryAtHand(state);
        int at = entry.placeOf(member);
        if (!entry.hasMember(at, member)) {
            throw new NoSuchElementException("the member is not there");
        }
        return entry.numbers[at];
    }

    public long member(int state, int i)
            throws IndexOutOfBoundsException, IllegalArgumentException, IllegalStateException {
        needToRead(state, MAP, MAP);
        return numberAt(entryAtHand(state).members, i);
    }

    public boolean remove(int state, long member)
            throws IndexOutOfBoundsException, IllegalArgumentException, IllegalStateException {
        needToRead(state, MAP, MAP);
        Entry old = entryAtHand(state);
        int at = old.placeOf(member);
        if (!old.hasMember(at, member)) {
            return false;
        }
        keep(old.withoutMember(at));
        return true;
    }

    public int fold(int state, long v)
            throws IndexOutOfBoundsException, IllegalArgumentException, IllegalStateException {
        needToWrite(state, FOLD, v);
        Entry old = entryAtHand(state);
        if (hasNoRoomFor(old)) {
            return FULL;
        }
        keep(old.withFolded(now.types[state], v));
        return old.folded + 1;
    }

    public int size(int state) throws IndexOutOfBoundsException, IllegalStateException {
        needState(state);
        needKey();
        Entry entry = entryAtHand(state);
        return now.kinds[state] == FOLD ? entry.folded : entry.numbers.length;
    }

    public boolean clear(int state) throws IndexOutOfBoundsException, IllegalStateException {
        needState(state);
        needKey();
        Entry old = entryAtHand(state);
        if (old.isNone()) {
            return false;
        }
        keep(old.withNothing());
        return true;
    }

    // ---- all keys

    public int clearSpan() {
        int cleared = 0;
        for (int p = 0; p < PAGES; p++) {
            if (now.pages[p].hasSpan(spanAtHand)) {
                cleared += pageToChange(p).loseSpan(spanAtHand);
            }
        }
        return cleared;
    }

    public int keys(int state) throws IndexOutOfBoundsException {
        needState(state);
        return sortKeys(state);
    }

    public long keyAt(int state, int i) throws IndexOutOfBoundsException {
        needState(state);
        int count = sortKeys(state);
        if (i < 0 || i >= count) {
            throw new IndexOutOfBoundsException("no such key");
        }
        return risingKeys[i];
    }

    // ---- snapshots

    public int snapshot() {
        for (int slot = 0; slot < MOST_SNAPSHOTS; slot++) {
            if (snapshots[slot] == null) {
                Picture picture = now.taken(snapshotsTaken);
                snapshots[slot] = picture;
                snapshotsTaken++;
                return picture.number;
            }
        }
        return FULL;
    }

    public int drop(int snapshot) throws IndexOutOfBoundsException {
        int slot = slotOf(snapshot);
        snapshotIn(slot).releasePages();
        snapshots[slot] = null;
        return now.countShared();
    }

    public long ask(int snapshot, int state, long key, int span, int i)
            throws IndexOutOfBoundsException, NoSuchElementException {
        Picture picture = pictureOf(snapshot);
        needState(state);
        long[] numbers = picture.entryOf(state, key, span).numbers;
        if (i < 0 || i >= numbers.length) {
            throw new NoSuchElementException("no such entry or number");
        }
        return numbers[i];
    }

    public int entries(int snapshot, int state) throws IndexOutOfBoundsException {
        Picture picture = pictureOf(snapshot);
        needState(state);
        return picture.countEntriesOf(state);
    }

    public int restore(int snapshot) throws IndexOutOfBoundsException {
        now.becomeLike(snapshotIn(slotOf(snapshot)));
        return now.countEntries();
    }

    // ---- moving

    public int move(int state, int kind, int type) throws IndexOutOfBoundsException {
        needState(state);
        if (!isKindAndType(kind, type)) {
            return BAD;
        }
        if (!canMove(now.kinds[state], kind) || !now.allFit(state, kind, type)) {
            return NO;
        }
        int moved = 0;
        for (int p = 0; p < PAGES; p++) {
            // An entry that is moved as it is counts as changed: it is given what it has.
            if (now.pages[p].countEntriesOf(state) > 0) {
                moved += pageToChange(p).moveEntries(state, kind, type);
            }
        }
        now.kinds[state] = kind;
        now.types[state] = type;
        return moved;
    }

    public int of(int state, int what) throws IndexOutOfBoundsException {
        needState(state);
        switch (what) {
            case 0:
                return names[state];
            case 1:
                return now.kinds[state];
            case 2:
                return now.types[state];
            default:
                throw new IndexOutOfBoundsException("no such thing of a state");
        }
    }

    public int told(int what) {
        switch (what) {
            case 0:
                return now.stateCount;
            case 1:
                return now.countEntries();
            case 2:
                return countSnapshots();
            case 3:
                return now.countShared();
            case 4:
                return pagesCopied;
            case 5:
                return now.countPagesInUse();
            case 6:
                return now.countNumbers();
            default:
                return BAD;
        }
    }

    private void needState(int state) {
        if (state < 0 || state >= now.stateCount) {
            throw new IndexOutOfBoundsException("no such state");
        }
    }

    private void needKey() {
        if (!hasKey) {
            throw new IllegalStateException("no key is at hand");
        }
    }

    private void needToWrite(int state, int kind, long v) {
        needState(state);
        if (now.kinds[state] != kind) {
            throw new IllegalArgumentException("the state has another kind");
        }
        if (!fits(kind, now.types[state], v)) {
            throw new IllegalArgumentException("the number does not fit");
        }
        needKey();
    }

    private void needToRead(int state, int kind, int otherKind) {
        needState(state);
        if (now.kinds[state] != kind && now.kinds[state] != otherKind) {
            throw new IllegalArgumentException("the state has another kind");
        }
        needKey();
    }

    private Entry entryAtHand(int state) {
        return now.entryOf(state, keyAtHand, spanAtHand);
    }

    private boolean hasNoRoomFor(Entry old) {
        return old.isNone() && now.countEntries() >= MOST_ENTRIES;
    }

    private void keep(Entry entry) {
        pageToChange(pageNumber(entry.state, entry.key, entry.span)).keepEntry(entry);
    }

    private Page pageToChange(int p) {
        Page page = now.pages[p];
        if (page.isShared()) {
            page = page.copied();
            now.pages[p] = page;
            pagesCopied++;
        }
        return page;
    }

    private int sortKeys(int state) {
        int count = 0;
        for (int p = 0; p < PAGES; p++) {
            count = now.pages[p].sortKeysInto(risingKeys, count, state, spanAtHand);
        }
        return count;
    }

    private Picture pictureOf(int snapshot) {
        return snapshot == NOW ? now : snapshotIn(slotOf(snapshot));
    }

    private int slotOf(int snapshot) {
        for (int slot = 0; slot < MOST_SNAPSHOTS; slot++) {
            Picture picture = snapshots[slot];
            if (picture != null && picture.number == snapshot) {
                return slot;
            }
        }
        return NONE_FOUND;
    }

    private Picture snapshotIn(int slot) {
        Picture picture = slot < 0 || slot >= MOST_SNAPSHOTS ? null : snapshots[slot];
        if (picture == null) {
            throw new IndexOutOfBoundsException("no such snapshot");
        }
        return picture;
    }

    private int countSnapshots() {
        int count = 0;
        for (int slot = 0; slot < MOST_SNAPSHOTS; slot++) {
            if (snapshots[slot] != null) {
                count++;
            }
        }
        return count;
    }

    private static boolean isKindAndType(int kind, int type) {
        return kind >= 0 && kind < KINDS && type >= 0 && type < TYPES;
    }

    private static boolean fits(int kind, int type, long v) {
        if (kind == FOLD || type == 0) {
            return true;
        }
        return type == 1 ? v >= -1000 && v <= 1000 : v >= 0;
    }

    private static boolean canMove(int from, int to) {
        switch (from) {
            case VALUE:
                return to != MAP;
            case LIST:
                return to == LIST || to == FOLD;
            case MAP:
                return to == MAP || to == LIST;
            default:
                return to == VALUE;
        }
    }

    private static int pageNumber(int state, long key, int span) {
        int k = (int) key ^ (int) (key >>> 32);
        return ((k * 31 + span) * 31 + state) & (PAGES - 1);
    }

    private static long numberAt(long[] row, int i) {
        if (i < 0 || i >= row.length) {
            throw new IndexOutOfBoundsException("none such");
        }
        return row[i];
    }

    /** How many of the first count numbers of a rising row are below x. */
    private static int countBelow(long[] row, int count, long x) {
        int at = 0;
        while (at < count && at < row.length && row[at] < x) {
            at++;
        }
        return at;
    }

    private static long joined(int type, long a, long b) {
        if (type == SUM) {
            return a + b;
        }
        return type == LEAST ? Math.min(a, b) : Math.max(a, b);
    }

    /**
     * What a state has for a key in a span. It is never changed but replaced, so that a copied page
     * can hold the same ones; without numbers it stands for an entry that is not there. A MAP's numbers
     * and members are rows of one length, members rising; for other kinds there are no members. Folded
     * is 0 but for a FOLD.
     */
    private static final class Entry {
        final int state;
        final long key;
        final int span;
        final long[] numbers;
        final long[] members;
        final int folded;

        Entry(int state, long key, int span) {
            this.state = state;
            this.key = key;
            this.span = span;
            this.numbers = EMPTY;
            this.members = EMPTY;
            this.folded = 0;
        }

        Entry(Entry place, long[] numbers, long[] members, int folded) {
            this.state = place.state;
            this.key = place.key;
            this.span = place.span;
            this.numbers = numbers;
            this.members = members;
            this.folded = folded;
        }

        boolean isNone() {
            return numbers.length == 0;
        }

        boolean isAt(int otherState, long otherKey, int otherSpan) {
            return state == otherState && key == otherKey && span == otherSpan;
        }

        int placeOf(long member) {
            return countBelow(members, members.length, member);
        }

        boolean hasMember(int at, long member) {
            return at < members.length && members[at] == member;
        }

        Entry withNothing() {
            return new Entry(this, EMPTY, EMPTY, 0);
        }

        Entry withOnly(long v) {
            return new Entry(this, new long[] {v}, EMPTY, 0);
        }

        Entry withOneMore(long v) {
            return new Entry(this, inserted(numbers, numbers.length, v), EMPTY, 0);
        }

        Entry withNumberAt(int at, long v) {
            long[] changed = Arrays.copyOf(numbers, numbers.length);
            changed[at] = v;
            return new Entry(this, changed, members, 0);
        }

        Entry withMember(int at, long member, long v) {
            return new Entry(this, inserted(numbers, at, v), inserted(members, at, member), 0);
        }

        Entry withoutMember(int at) {
            return new Entry(this, without(numbers, at), without(members, at), 0);
        }

        Entry withFolded(int type, long v) {
            long all = isNone() ? v : joined(type, numbers[0], v);
            return new Entry(this, new long[] {all}, EMPTY, folded + 1);
        }

        boolean allFit(int kind, int type) {
            for (int i = 0; i < numbers.length; i++) {
                if (!fits(kind, type, numbers[i])) {
                    return false;
                }
            }
            return true;
        }

        Entry movedTo(int kind, int type) {
            if (kind == FOLD) {
                return foldedUp(type);
            }
            if (kind == MAP || members.length == 0 && folded == 0) {
                return this;
            }
            return new Entry(this, numbers, EMPTY, 0);
        }

        private Entry foldedUp(int type) {
            if (isNone()) {
                return this;
            }
            long all = numbers[0];
            for (int i = 1; i < numbers.length; i++) {
                all = joined(type, all, numbers[i]);
            }
            return new Entry(this, new long[] {all}, EMPTY, numbers.length);
        }

        private static long[] inserted(long[] row, int at, long x) {
            long[] longer = new long[row.length + 1];
            System.arraycopy(row, 0, longer, 0, at);
            longer[at] = x;
            System.arraycopy(row, at, longer, at + 1, row.length - at);
            return longer;
        }

        private static long[] without(long[] row, int at) {
            long[] shorter = new long[row.length - 1];
            System.arraycopy(row, 0, shorter, 0, at);
            System.arraycopy(row, at + 1, shorter, at, shorter.length - at);
            return shorter;
        }
    }

    /** A page of entries; a row that is null is free. It is changed only while no snapshot holds it. */
    private static final class Page {
        Entry[] rows = new Entry[FIRST_ROWS];
        int holders = 0;

        boolean isShared() {
            return holders > 0;
        }

        Page copied() {
            Page copy = new Page();
            copy.rows = rows.clone();
            return copy;
        }

        int rowOf(int state, long key, int span) {
            for (int r = 0; r < rows.length; r++) {
                if (rows[r] != null && rows[r].isAt(state, key, span)) {
                    return r;
                }
            }
            return NONE_FOUND;
        }

        void keepEntry(Entry entry) {
            int row = rowOf(entry.state, entry.key, entry.span);
            if (row == NONE_FOUND) {
                row = freeRow();
            }
            rows[row] = entry.isNone() ? null : entry;
        }

        private int freeRow() {
            for (int r = 0; r < rows.length; r++) {
                if (rows[r] == null) {
                    return r;
                }
            }
            int first = rows.length;
            Entry[] more = new Entry[first * 2];
            for (int r = 0; r < first; r++) {
                more[r] = rows[r];
            }
            rows = more;
            return first;
        }

        boolean hasSpan(int span) {
            for (int r = 0; r < rows.length; r++) {
                if (rows[r] != null && rows[r].span == span) {
                    return true;
                }
            }
            return false;
        }

        int loseSpan(int span) {
            int lost = 0;
            for (int r = 0; r < rows.length; r++) {
                if (rows[r] != null && rows[r].span == span) {
                    rows[r] = null;
                    lost++;
                }
            }
            return lost;
        }

        boolean allFit(int state, int kind, int type) {
            for (int r = 0; r < rows.length; r++) {
                if (rows[r] != null && rows[r].state == state && !rows[r].allFit(kind, type)) {
                    return false;
                }
            }
            return true;
        }

        int moveEntries(int state, int kind, int type) {
            int moved = 0;
            for (int r = 0; r < rows.length; r++) {
                if (rows[r] != null && rows[r].state == state) {
                    rows[r] = rows[r].movedTo(kind, type);
                    moved++;
                }
            }
            return moved;
        }

        int sortKeysInto(long[] rising, int count, int state, int span) {
            int sorted = count;
            for (int r = 0; r < rows.length && sorted < rising.length; r++) {
                if (rows[r] != null && rows[r].state == state && rows[r].span == span) {
                    int at = countBelow(rising, sorted, rows[r].key);
                    System.arraycopy(rising, at, rising, at + 1, sorted - at);
                    rising[at] = rows[r].key;
                    sorted++;
                }
            }
            return sorted;
        }

        int countEntries() {
            int count = 0;
            for (int r = 0; r < rows.length; r++) {
                if (rows[r] != null) {
                    count++;
                }
            }
            return count;
        }

        int countEntriesOf(int state) {
            int count = 0;
            for (int r = 0; r < rows.length; r++) {
                if (rows[r] != null && rows[r].state == state) {
                    count++;
                }
            }
            return count;
        }

        int countNumbers() {
            int count = 0;
            for (int r = 0; r < rows.length; r++) {
                if (rows[r] != null) {
                    count += rows[r].numbers.length;
                }
            }
            return count;
        }
    }

    /** All pages, kinds and types: as they are now, or as a snapshot has them. */
    private static final class Picture {
        final int number;
        final Page[] pages = new Page[PAGES];
        final int[] kinds = new int[MOST_STATES];
        final int[] types = new int[MOST_STATES];
        int stateCount = 0;

        Picture() {
            number = NOW;
            for (int p = 0; p < PAGES; p++) {
                pages[p] = new Page();
            }
        }

        Picture(Picture like, int number) {
            this.number = number;
            this.stateCount = like.stateCount;
            for (int p = 0; p < PAGES; p++) {
                pages[p] = like.pages[p];
            }
            for (int s = 0; s < MOST_STATES; s++) {
                kinds[s] = like.kinds[s];
                types[s] = like.types[s];
            }
        }

        int tellState(int kind, int type) {
            int state = stateCount;
            kinds[state] = kind;
            types[state] = type;
            stateCount++;
            return state;
        }

        Picture taken(int asNumber) {
            Picture picture = new Picture(this, asNumber);
            for (int p = 0; p < PAGES; p++) {
                pages[p].holders++;
            }
            return picture;
        }

        void releasePages() {
            for (int p = 0; p < PAGES; p++) {
                pages[p].holders--;
            }
        }

        /** States told since the other picture keep what they are: only their entries are gone. */
        void becomeLike(Picture other) {
            for (int p = 0; p < PAGES; p++) {
                pages[p] = other.pages[p];
            }
            for (int s = 0; s < other.stateCount; s++) {
                kinds[s] = other.kinds[s];
                types[s] = other.types[s];
            }
        }

        Entry entryOf(int state, long key, int span) {
            Page page = pages[pageNumber(state, key, span)];
            int row = page.rowOf(state, key, span);
            return row == NONE_FOUND ? new Entry(state, key, span) : page.rows[row];
        }

        boolean allFit(int state, int kind, int type) {
            for (int p = 0; p < PAGES; p++) {
                if (!pages[p].allFit(state, kind, type)) {
                    return false;
                }
            }
            return true;
        }

        int countEntries() {
            int count = 0;
            for (int p = 0; p < PAGES; p++) {
                count += pages[p].countEntries();
            }
            return count;
        }

        int countEntriesOf(int state) {
            int count = 0;
            for (int p = 0; p < PAGES; p++) {
                count += pages[p].countEntriesOf(state);
            }
            return count;
        }

        int countNumbers() {
            int count = 0;
            for (int p = 0; p < PAGES; p++) {
                count += pages[p].countNumbers();
            }
            return count;
        }

        int countPagesInUse() {
            int count = 0;
            for (int p = 0; p < PAGES; p++) {
                if (pages[p].countEntries() > 0) {
                    count++;
                }
            }
            return count;
        }

        int countShared() {
            int count = 0;
            for (int p = 0; p < PAGES; p++) {
                if (pages[p].isShared()) {
                    count++;
                }
            }
            return count;
        }
    }
}
