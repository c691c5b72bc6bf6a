import java.util.ArrayList;
import java.util.List;

/** What the document's terms say of exceptions, their order, and that what is refused changes nothing. */
final class ErrorSentences {
    private static final int VALUE = Make.VALUE, LIST = Make.LIST, MAP = Make.MAP, FOLD = Make.FOLD;
    private static final int BAD = Make.BAD, NO = Make.NO, FULL = Make.FULL;
    private static final int LEAST = Make.LEAST, MOST = Make.MOST;

    /** A call on an object that a test brings. */
    private interface On {
        long go(KeyStates x);
    }

    private ErrorSentences() {
    }

    static List<Sentence> all() {
        List<Sentence> all = new ArrayList<>();
        all.add(Sentence.terms("EXCEPTIONS, the first that fits", ErrorSentences::firstThatFits,
            "needState(state); if (now.kinds[state] != kind) {",
                "needKey(); needState(state); if (now.kinds[state] != kind) {",
            "needState(state); if (now.kinds[state] != kind &&",
                "needKey(); needState(state); if (now.kinds[state] != kind &&",
            "needState(state); needKey(); Entry entry", "needKey(); needState(state); Entry entry",
            "needState(state); needKey(); Entry old", "needKey(); needState(state); Entry old",
            "needState(state); if (!isKindAndType(kind, type)) { return BAD; }",
                "if (!isKindAndType(kind, type)) { return BAD; } needState(state);"));
        all.add(Sentence.terms("IndexOutOfBoundsException: no such STATE, SNAPSHOT", ErrorSentences::noSuchStateOrSnapshot,
            "if (state < 0 || state >= now.stateCount) {", "if (state >= now.stateCount) {",
            "if (state < 0 || state >= now.stateCount) {", "if (state < 0 || state > now.stateCount) {",
            "return snapshot == NOW ? now", "return snapshot < 0 ? now",
            "snapshots[slot] = null; return now", "return now",
            "now.becomeLike(snapshotIn(slotOf(snapshot)));", "now.becomeLike(pictureOf(snapshot));"));
        all.add(Sentence.terms("IllegalArgumentException: the STATE has another KIND than is told here",
            ErrorSentences::anotherKind,
            "if (now.kinds[state] != kind) {", "if (now.kinds[state] != kind && kind == FOLD) {",
            "needToWrite(state, FOLD, v);", "needToWrite(state, now.kinds[state], v);",
            "now.kinds[state] != kind && now.kinds[state] != otherKind", "now.kinds[state] == VALUE",
            "needToRead(state, VALUE, FOLD);", "needToRead(state, VALUE, VALUE);",
            "needToRead(state, LIST, MAP);", "needToRead(state, LIST, LIST);",
            "needToRead(state, MAP, MAP); return", "needToRead(state, MAP, LIST); return",
            "needToRead(state, MAP, MAP); Entry old", "needToRead(state, MAP, FOLD); Entry old",
            "needToRead(state, MAP, MAP); Entry entry", "needToRead(state, MAP, VALUE); Entry entry"));
        all.add(Sentence.terms("or a number does not FIT", ErrorSentences::doesNotFit,
            "if (!fits(kind, now.types[state], v)) {", "if (!fits(kind, now.types[0], v)) {",
            "needToWrite(state, MAP, v);", "needToWrite(state, MAP, member);",
            "needToWrite(state, LIST, v);", "needToRead(state, LIST, LIST);",
            "needToWrite(state, VALUE, v);", "needToRead(state, VALUE, VALUE);"));
        all.add(Sentence.terms("IllegalStateException: no KEY is at hand", ErrorSentences::noKeyAtHand,
            "if (!fits(kind, now.types[state], v)) { throw new IllegalArgumentException(\"the number does not fit\"); } needKey();",
                "if (!fits(kind, now.types[state], v)) { throw new IllegalArgumentException(\"the number does not fit\"); }",
            "throw new IllegalArgumentException(\"the state has another kind\"); } needKey();",
                "throw new IllegalArgumentException(\"the state has another kind\"); }",
            "needKey(); Entry entry", "Entry entry",
            "needKey(); Entry old", "Entry old",
            "public int keys(int state) throws IndexOutOfBoundsException {",
                "public int keys(int state) throws IndexOutOfBoundsException { needKey();",
            "public int clearSpan() {", "public int clearSpan() { needKey();"));
        all.add(Sentence.terms("then what is told.", ErrorSentences::thenWhatIsTold,
            "needToRead(state, LIST, MAP); return numberAt(",
                "if (i < 0) { throw new IndexOutOfBoundsException(); } needToRead(state, LIST, MAP); return numberAt(",
            "public int put(int state, long v) throws IndexOutOfBoundsException, IllegalArgumentException, IllegalStateException {",
                "public int put(int state, long v) { if (now.countEntries() >= MOST_ENTRIES) { return FULL; }",
            "Picture picture = pictureOf(snapshot); needState(state); long[]",
                "if (i < 0) { throw new NoSuchElementException(); } Picture picture = pictureOf(snapshot); needState(state); long[]"));
        all.add(Sentence.terms("What is refused", ErrorSentences::refusedChangesNothing,
            "if (!isKindAndType(kind, type)) { return BAD; } for",
                "if (!isKindAndType(kind, type)) { now.types[0] = 2; return BAD; } for",
            "? s : NO;", "? s : (names[s] = NO);",
            "if (now.stateCount >= MOST_STATES) { return FULL; }",
                "if (now.stateCount >= MOST_STATES) { names[0] = name; return FULL; }",
            "if (hasNoRoomFor(old)) { return FULL; } keep(old.withOnly(v));",
                "pageToChange(pageNumber(state, keyAtHand, spanAtHand)); if (hasNoRoomFor(old)) { return FULL; } keep(old.withOnly(v));",
            "if (hasNoRoomFor(old)) { return FULL; } keep(old.withFolded",
                "pageToChange(pageNumber(state, keyAtHand, spanAtHand)); if (hasNoRoomFor(old)) { return FULL; } keep(old.withFolded",
            "if (old.numbers.length >= MOST_NUMBERS ||",
                "pageToChange(pageNumber(state, keyAtHand, spanAtHand)); if (old.numbers.length >= MOST_NUMBERS ||",
            "if (old.members.length >= MOST_NUMBERS ||",
                "pageToChange(pageNumber(state, keyAtHand, spanAtHand)); if (old.members.length >= MOST_NUMBERS ||",
            "return FULL; } public int drop", "snapshotsTaken++; return FULL; } public int drop",
            "needState(state); if (!isKindAndType(kind, type)) {",
                "needState(state); if (!isKindAndType(kind, type)) { now.types[state] = 2;",
            "return NO; } int moved", "now.types[state] = type; return NO; } int moved"));
        all.add(Sentence.terms("and what throws, changes nothing.", ErrorSentences::thrownChangesNothing,
            "throw new IllegalStateException(\"no key is at hand\");",
                "keyAtHand = 2; hasKey = true; throw new IllegalStateException();",
            "throw new NoSuchElementException(\"there is no entry\");",
                "keep(entry.withOnly(0)); throw new NoSuchElementException();",
            "throw new NoSuchElementException(\"the member is not there\");",
                "keep(entry.withMember(at, member, 0)); throw new NoSuchElementException();",
            "throw new IllegalArgumentException(\"the number does not fit\");",
                "pagesCopied++; throw new IllegalArgumentException();",
            "throw new IndexOutOfBoundsException(\"no such state\");",
                "spanAtHand = 0; throw new IndexOutOfBoundsException();",
            "throw new IndexOutOfBoundsException(\"no such snapshot\");",
                "snapshotsTaken++; throw new IndexOutOfBoundsException();",
            "throw new NoSuchElementException(\"no such entry or number\");",
                "spanAtHand = span; throw new NoSuchElementException();",
            "throw new IndexOutOfBoundsException(\"no such key\");",
                "spanAtHand = i; throw new IndexOutOfBoundsException();"));
        return all;
    }

    private static void firstThatFits(Check c) {
        KeyStates x = Make.states(VALUE, 1, LIST, 1, MAP, 1, FOLD, 1);
        x.leave();
        c.outOfBounds("put: no state, no key", () -> x.put(4, 5000));
        c.outOfBounds("value: no state, no key", () -> x.value(4));
        c.outOfBounds("add: no state, no key", () -> x.add(4, 5000));
        c.outOfBounds("item: no state, no key", () -> x.item(4, -1));
        c.outOfBounds("set: no state, no key", () -> x.set(4, 1, 5000));
        c.outOfBounds("get: no state, no key", () -> x.get(4, 1));
        c.outOfBounds("member: no state, no key", () -> x.member(4, -1));
        c.outOfBounds("remove: no state, no key", () -> Check.bit(x.remove(4, 1)));
        c.outOfBounds("fold: no state, no key", () -> x.fold(4, 1));
        c.outOfBounds("size: no state, no key", () -> x.size(4));
        c.outOfBounds("clear: no state, no key", () -> Check.bit(x.clear(4)));
        c.badArgument("put: another kind, no key", () -> x.put(1, 1));
        c.badArgument("put: it does not fit, no key", () -> x.put(0, 5000));
        c.badArgument("value: another kind, no key", () -> x.value(1));
        c.badArgument("add: another kind, no key", () -> x.add(0, 1));
        c.badArgument("add: it does not fit, no key", () -> x.add(1, 5000));
        c.badArgument("item: another kind, no key", () -> x.item(0, 0));
        c.badArgument("set: another kind, no key", () -> x.set(0, 1, 1));
        c.badArgument("set: it does not fit, no key", () -> x.set(2, 1, 5000));
        c.badArgument("get: another kind, no key", () -> x.get(0, 1));
        c.badArgument("member: another kind, no key", () -> x.member(0, 0));
        c.badArgument("remove: another kind, no key", () -> Check.bit(x.remove(0, 1)));
        c.badArgument("fold: another kind, no key", () -> x.fold(0, 1));
        c.outOfBounds("move: no state, no such kind", () -> x.move(4, 9, 9));
        c.outOfBounds("of: no state, another what", () -> x.of(4, 9));
    }

    private static void noSuchStateOrSnapshot(Check c) {
        KeyStates x = Make.eachKind();
        x.snapshot();
        x.snapshot();
        x.drop(0);
        for (int state : new int[] {-1, 4, 8, LEAST, MOST}) {
            On[] calls = {y -> y.put(state, 0), y -> y.value(state), y -> y.add(state, 0), y -> y.item(state, 0),
                y -> y.set(state, 0, 0), y -> y.get(state, 0), y -> y.member(state, 0),
                y -> Check.bit(y.remove(state, 0)), y -> y.fold(state, 0), y -> y.size(state),
                y -> Check.bit(y.clear(state)), y -> y.keys(state), y -> y.keyAt(state, 0),
                y -> y.ask(-1, state, 1, 0, 0), y -> y.ask(1, state, 1, 0, 0), y -> y.entries(-1, state),
                y -> y.entries(1, state), y -> y.move(state, 0, 0), y -> y.of(state, 0)};
            for (int n = 0; n < calls.length; n++) {
                On call = calls[n];
                c.outOfBounds("state " + state + ", call " + n, () -> call.go(x));
            }
        }
        for (int snapshot : new int[] {0, 2, 6, -2, LEAST, MOST}) {
            c.outOfBounds("drop of " + snapshot, () -> x.drop(snapshot));
            c.outOfBounds("ask of " + snapshot, () -> x.ask(snapshot, 0, 1, 0, 0));
            c.outOfBounds("entries of " + snapshot, () -> x.entries(snapshot, 0));
            c.outOfBounds("restore of " + snapshot, () -> x.restore(snapshot));
        }
        c.outOfBounds("drop of now", () -> x.drop(-1));
        c.outOfBounds("restore of now", () -> x.restore(-1));
        c.is("entries of now", 0, x.entries(-1, 3));
        c.is("entries of the one there", 0, x.entries(1, 3));
    }

    private static void anotherKind(Check c) {
        KeyStates x = Make.eachKind();
        for (int s = 0; s < 4; s++) {
            Make.write(x, s, 1);
        }
        for (int state = 0; state < 4; state++) {
            int s = state;
            On[] calls = {y -> y.put(s, 1), y -> y.value(s), y -> y.add(s, 1), y -> y.item(s, 0), y -> y.set(s, 1, 1),
                y -> y.get(s, 1), y -> y.member(s, 0), y -> y.fold(s, 1), y -> Check.bit(y.remove(s, 1))};
            String[] kinds = {"0", "03", "1", "12", "2", "2", "2", "3", "2"};
            for (int n = 0; n < calls.length; n++) {
                On call = calls[n];
                String what = "call " + n + " of kind " + s;
                if (kinds[n].indexOf('0' + s) < 0) {
                    c.badArgument(what, () -> call.go(x));
                } else {
                    c.yes(what, !Check.answer(() -> call.go(x)).startsWith("throws"));
                }
            }
        }
        for (int s = 0; s < 4; s++) {
            Make.write(x, s, 1);
            c.yes("size is of all kinds: " + s, x.size(s) > 0);
            c.isTrue("clear is of all kinds: " + s, x.clear(s));
        }
    }

    private static void doesNotFit(Check c) {
        KeyStates x = Make.states(VALUE, 0, VALUE, 1, LIST, 1, MAP, 1, VALUE, 2, LIST, 2, MAP, 2);
        c.badArgument("put of type 1", () -> x.put(1, 1001));
        c.badArgument("add of type 1", () -> x.add(2, -1001));
        c.badArgument("set of type 1", () -> x.set(3, 5, 1001));
        c.badArgument("put of type 2", () -> x.put(4, -1));
        c.badArgument("add of type 2", () -> x.add(5, -1));
        c.badArgument("set of type 2", () -> x.set(6, 5, -1));
        c.is("none of them is there", 0, x.told(1));
        c.is("a member fits always", 1, x.set(3, 1001, 5));
        c.is("also below 0", 1, x.set(6, -1, 5));
        c.badArgument("also one that is there", () -> x.set(6, -1, -1));
        c.is("it stays", 5, x.get(6, -1));
        c.noElement("get asks for no fit", () -> x.get(6, -1001));
        c.isFalse("remove asks for no fit", x.remove(6, -1001));
    }

    private static void noKeyAtHand(Check c) {
        KeyStates x = Make.eachKind();
        for (int s = 0; s < 4; s++) {
            Make.write(x, s, 1);
        }
        x.leave();
        c.badState("put", () -> x.put(0, 1));
        c.badState("value", () -> x.value(0));
        c.badState("value of a fold", () -> x.value(3));
        c.badState("add", () -> x.add(1, 1));
        c.badState("item", () -> x.item(1, 0));
        c.badState("item of a map", () -> x.item(2, 0));
        c.badState("set", () -> x.set(2, 1, 1));
        c.badState("get", () -> x.get(2, 1));
        c.badState("member", () -> x.member(2, 0));
        c.badState("remove", () -> Check.bit(x.remove(2, 1)));
        c.badState("fold", () -> x.fold(3, 1));
        c.badState("size", () -> x.size(0));
        c.badState("clear", () -> Check.bit(x.clear(0)));
        c.is("keys needs none", 1, x.keys(0));
        c.is("keyAt needs none", 1, x.keyAt(0, 0));
        c.is("ask needs none", 1, x.ask(-1, 0, 1, 0, 0));
        c.is("entries needs none", 1, x.entries(-1, 0));
        c.is("snapshot needs none", 0, x.snapshot());
        c.is("restore needs none", 4, x.restore(0));
        c.is("move needs none", 1, x.move(0, LIST, 0));
        c.is("clearSpan needs none", 4, x.clearSpan());
    }

    private static void thenWhatIsTold(Check c) {
        KeyStates x = Make.states(VALUE, 2, LIST, 2, MAP, 2);
        for (int n = 0; n < 10; n++) {
            x.add(1, n);
            x.set(2, n, n);
        }
        c.badArgument("it does not fit, and ten are there", () -> x.add(1, -1));
        c.badArgument("it does not fit, and ten members are there", () -> x.set(2, 10, -1));
        c.is("then FULL", FULL, x.add(1, 1));
        c.is("then FULL, of a map", FULL, x.set(2, 10, 1));
        c.noElement("then no entry", () -> x.value(0));
        c.noElement("then no member", () -> x.get(2, 10));
        c.outOfBounds("then no such number", () -> x.item(1, 10));
        c.outOfBounds("then no such member", () -> x.member(2, 10));
        c.outOfBounds("ask: no snapshot, no number", () -> x.ask(5, 0, 1, 0, -1));
        c.outOfBounds("ask: no state, no number", () -> x.ask(-1, 3, 1, 0, -1));
        x.leave();
        c.badState("no key, no entry", () -> x.value(0));
        c.badState("no key, no member", () -> x.get(2, 10));
        c.badState("no key, no such number", () -> x.item(1, -1));
        c.badState("no key, no such member by number", () -> x.member(2, -1));
        c.badState("no key, ten are there", () -> x.add(1, 1));
        KeyStates y = Make.with(150);
        y.state(7, VALUE, 2);
        c.badArgument("it does not fit, and 150 are there", () -> y.put(4, -1));
        c.badArgument("another kind, and 150 are there", () -> y.put(1, 1));
        c.outOfBounds("no state, and 150 are there", () -> y.put(5, 1));
        c.is("then FULL of entries", FULL, y.put(4, 1));
        y.leave();
        c.badState("no key, and 150 are there", () -> y.put(4, 1));
    }

    private static void refusedChangesNothing(Check c) {
        refused(c, ErrorSentences::busy, BAD, x -> x.state(1, 4, 0), x -> x.state(1, 0, 3), x -> x.state(100, -1, 0),
            x -> x.move(0, 4, 0), x -> x.move(0, 0, 3), x -> x.move(0, -1, -1), x -> x.told(7), x -> x.told(-1));
        refused(c, ErrorSentences::busy, NO, x -> x.state(100, LIST, 1), x -> x.state(100, VALUE, 0),
            x -> x.move(0, MAP, 1), x -> x.move(1, VALUE, 1), x -> x.move(2, FOLD, 0), x -> x.move(3, FOLD, 1),
            x -> x.move(4, VALUE, 2), x -> x.move(4, LIST, 1), x -> x.move(5, LIST, 2), x -> x.move(6, MAP, 2),
            x -> x.move(6, LIST, 2));
        refused(c, ErrorSentences::busy, FULL, x -> x.state(999, 0, 0), x -> x.add(1, 1), x -> x.set(2, 10, 1),
            x -> x.snapshot());
        refused(c, ErrorSentences::crowded, FULL, x -> x.put(0, 1), x -> x.add(1, 1), x -> x.set(2, 1, 1),
            x -> x.fold(3, 1), x -> x.put(4, 1), x -> x.add(5, 1), x -> x.set(6, 1, 1), x -> x.fold(7, 1));
    }

    private static void thrownChangesNothing(Check c) {
        thrown(c, ErrorSentences::busy, x -> x.put(8, 1), x -> x.put(0, 1001), x -> x.put(1, 1), x -> x.value(8),
            x -> x.value(1), x -> x.add(8, 1), x -> x.add(0, 1), x -> x.add(1, 1001), x -> x.item(8, 0),
            x -> x.item(0, 0), x -> x.item(1, 10), x -> x.item(1, -1), x -> x.set(8, 1, 1), x -> x.set(0, 1, 1),
            x -> x.set(2, 1, 1001), x -> x.set(2, 77, 1001), x -> x.get(8, 1), x -> x.get(0, 1), x -> x.get(2, 77),
            x -> x.member(8, 0), x -> x.member(0, 0), x -> x.member(2, 10), x -> Check.bit(x.remove(8, 1)),
            x -> Check.bit(x.remove(0, 1)), x -> x.fold(8, 1), x -> x.fold(0, 1), x -> x.size(8),
            x -> Check.bit(x.clear(8)), x -> x.keys(8), x -> x.keyAt(8, 0), x -> x.keyAt(0, 2), x -> x.keyAt(0, -1),
            x -> x.drop(6), x -> x.drop(-1), x -> x.ask(6, 0, 1, 3, 0), x -> x.ask(-1, 8, 1, 3, 0),
            x -> x.ask(-1, 0, 77, 0, 0), x -> x.ask(0, 0, 1, 3, 1), x -> x.entries(6, 0), x -> x.entries(0, 8),
            x -> x.restore(6), x -> x.restore(-1), x -> x.move(8, 0, 0), x -> x.of(8, 0), x -> x.of(0, 3));
        thrown(c, ErrorSentences::elsewhere, x -> x.value(0), x -> x.value(3), x -> x.get(2, 1), x -> x.item(1, 0),
            x -> x.item(2, 0), x -> x.member(2, 0));
        thrown(c, ErrorSentences::left, x -> x.put(0, 1), x -> x.value(0), x -> x.add(5, 1), x -> x.item(1, 0),
            x -> x.set(6, 1, 1), x -> x.get(2, 1), x -> x.member(2, 0), x -> Check.bit(x.remove(2, 1)),
            x -> x.fold(3, 1), x -> x.size(0), x -> Check.bit(x.clear(0)));
    }

    private interface Scene {
        KeyStates set();
    }

    private static void refused(Check c, Scene scene, int due, On... calls) {
        String before = lookedAt(scene.set());
        for (int n = 0; n < calls.length; n++) {
            KeyStates x = scene.set();
            c.is("refused call " + n, due, calls[n].go(x));
            c.judge("what is there after refused call " + n, lookedAt(x), before);
        }
    }

    private static void thrown(Check c, Scene scene, On... calls) {
        String before = lookedAt(scene.set());
        for (int n = 0; n < calls.length; n++) {
            KeyStates x = scene.set();
            On call = calls[n];
            c.yes("call " + n + " throws", Check.answer(() -> call.go(x)).startsWith("throws"));
            c.judge("what is there after throwing call " + n, lookedAt(x), before);
        }
    }

    private static KeyStates eightStates() {
        KeyStates x = Make.states(VALUE, 1, LIST, 1, MAP, 1, FOLD, 0, VALUE, 0, LIST, 0, MAP, 0, FOLD, 1);
        x.span(3);
        return x;
    }

    /** Eight states, full lists and maps, six snapshots, pages shared with some of them and pages that are not. */
    private static KeyStates busy() {
        KeyStates x = eightStates();
        x.put(0, 5);
        for (int n = 0; n < 10; n++) {
            x.add(1, n);
            x.set(2, n, n);
        }
        x.fold(3, 4);
        x.fold(3, 5);
        x.put(4, -5000);
        x.add(5, -3);
        x.add(5, -4);
        x.set(6, 4, -4);
        x.fold(7, 9);
        x.key(2);
        x.put(0, 6);
        x.key(1);
        for (int n = 0; n < 6; n++) {
            x.snapshot();
            if (n % 2 == 0) {
                x.put(0, n);
            }
        }
        x.put(0, 8);
        return x;
    }

    private static KeyStates elsewhere() {
        KeyStates x = busy();
        x.key(99);
        return x;
    }

    private static KeyStates left() {
        KeyStates x = busy();
        x.leave();
        return x;
    }

    /** 150 entries of state 4, none of the key at hand, all pages shared. */
    private static KeyStates crowded() {
        KeyStates x = eightStates();
        for (int k = 0; k < 150; k++) {
            x.key(1000 + k);
            x.put(4, k);
        }
        x.key(1);
        x.snapshot();
        return x;
    }

    /** All that can be seen of an object, in few enough calls that a crowded one can be looked at. */
    private static String lookedAt(KeyStates x) {
        StringBuilder seen = new StringBuilder();
        for (int what = 0; what <= 6; what++) {
            seen.append(x.told(what)).append(' ');
        }
        for (int s = 0; s < 8; s++) {
            seen.append("| ").append(x.of(s, 0)).append(' ').append(x.of(s, 1)).append(' ').append(x.of(s, 2));
            int state = s;
            Check.Call[] looks = {() -> x.size(state), () -> x.keys(state), () -> x.entries(-1, state),
                () -> x.entries(0, state), () -> x.ask(-1, state, 1, 3, 0), () -> x.ask(-1, state, 1, 3, 1),
                () -> x.ask(0, state, 1, 3, 0)};
            for (Check.Call look : looks) {
                seen.append(' ').append(Check.answer(look));
            }
        }
        seen.append("| ").append(x.ask(0, 4, x.keyAt(4, 0), 3, 0)).append(' ').append(x.span(0));
        seen.append(' ').append(x.leave()).append(' ').append(x.drop(0)).append(' ').append(x.snapshot());
        x.key(1);
        x.span(3);
        seen.append(' ').append(Check.answer(() -> x.get(2, 9))).append(' ').append(Check.answer(() -> x.item(1, 9)));
        return seen.append(' ').append(Check.answer(() -> x.put(0, 1))).append(' ').append(x.told(4)).toString();
    }
}
