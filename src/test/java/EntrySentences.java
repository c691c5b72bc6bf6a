import java.util.ArrayList;
import java.util.List;

/** The promises 1 to 16: a new object, states, what is at hand, and the entry at hand. */
final class EntrySentences {
    private static final int VALUE = Make.VALUE, LIST = Make.LIST, MAP = Make.MAP, FOLD = Make.FOLD;
    private static final int BAD = Make.BAD, NO = Make.NO, FULL = Make.FULL;
    private static final int LEAST = Make.LEAST, MOST = Make.MOST;

    private EntrySentences() {
    }

    static List<Sentence> all() {
        List<Sentence> all = new ArrayList<>();
        newObjectAndState(all);
        keyLeaveAndSpan(all);
        putAndValue(all);
        addAndItem(all);
        set(all);
        getMemberAndRemove(all);
        fold(all);
        sizeAndClear(all);
        return all;
    }

    private static void newObjectAndState(List<Sentence> all) {
        all.add(Sentence.promise(1, "No STATES.", c -> {
            KeyStates x = new KeyStates();
            for (int what = 0; what <= 6; what++) {
                c.is("told " + what, 0, x.told(what));
            }
            c.outOfBounds("there is no state 0", () -> x.of(0, 0));
            c.outOfBounds("nor keys of it", () -> x.keys(0));
            c.outOfBounds("nor is there a snapshot 0", () -> x.drop(0));
            c.is("nothing to clear", 0, x.clearSpan());
            x.state(1, VALUE, 0);
            c.is("another object has none of it", 0, new KeyStates().told(0));
        },
            "int stateCount = 0;", "int stateCount = 1;"));
        all.add(Sentence.promise(2, "A STATE: its number", c -> {
            KeyStates x = new KeyStates();
            c.is("the first", 0, x.state(LEAST, VALUE, 0));
            c.is("the second", 1, x.state(MOST, FOLD, 2));
            c.is("the third", 2, x.state(0, MAP, 1));
            c.is("three", 3, x.told(0));
            c.is("the first's name", LEAST, x.of(0, 0));
            c.is("the third's kind", MAP, x.of(2, 1));
            c.is("the second's type", 2, x.of(1, 2));
        },
            "return now.tellState(kind, type);", "return now.tellState(kind, type) + 1;",
            "stateCount++;", "",
            "names[now.stateCount] = name;", "",
            "types[state] = type; stateCount++;", "stateCount++;"));
        all.add(Sentence.promise(2, "(also if one with this NAME, KIND and TYPE is there).", c -> {
            KeyStates x = new KeyStates();
            for (int n = 0; n < 8; n++) {
                x.state(n, n % 4, n % 3);
            }
            for (int n = 7; n >= 0; n--) {
                c.is("state " + n + " again, though there are eight", n, x.state(n, n % 4, n % 3));
            }
            c.is("eight still", 8, x.told(0));
            x.move(0, LIST, 2);
            c.is("the kind and type that it was moved to", 0, x.state(0, LIST, 2));
        },
            "if (names[s] == name) {", "if (names[s] == name && s > 0) {",
            "now.types[s] == type ? s : NO;", "now.types[s] == type ? FULL : NO;"));
        all.add(Sentence.promise(2, "BAD: no such KIND, TYPE", c -> {
            KeyStates x = Make.states(VALUE, 0);
            for (int wrong : new int[] {-1, 4, LEAST, MOST}) {
                c.is("kind " + wrong, BAD, x.state(1, wrong, 0));
                c.is("kind " + wrong + " of a name that is there", BAD, x.state(100, wrong, 0));
            }
            for (int wrong : new int[] {-1, 3, LEAST, MOST}) {
                c.is("type " + wrong, BAD, x.state(1, 0, wrong));
                c.is("type " + wrong + " of a fold", BAD, x.state(1, FOLD, wrong));
                c.is("type " + wrong + " of a name that is there", BAD, x.state(100, VALUE, wrong));
            }
            c.is("one state", 1, x.told(0));
        },
            "KINDS = 4", "KINDS = 5",
            "TYPES = 3", "TYPES = 4",
            "kind >= 0 &&", "kind >= -1 &&",
            "type >= 0 &&", "type >= -1 &&",
            "&& type >= 0 && type < TYPES;", "&& (kind == FOLD || type >= 0 && type < TYPES);"));
        all.add(Sentence.promise(2, "NO: this NAME has another KIND or TYPE", c -> {
            KeyStates x = Make.states(LIST, 1);
            c.is("another kind", NO, x.state(100, VALUE, 1));
            c.is("another type", NO, x.state(100, LIST, 0));
            c.is("both", NO, x.state(100, FOLD, 2));
            c.is("one state", 1, x.told(0));
            c.is("another name may", 1, x.state(101, VALUE, 1));
            x.move(0, FOLD, 0);
            c.is("the kind and type it had", NO, x.state(100, LIST, 1));
            for (int n = 2; n < 8; n++) {
                x.state(200 + n, MAP, 0);
            }
            c.is("also of the last", NO, x.state(207, MAP, 1));
        },
            "now.kinds[s] == kind && now.types[s] == type ?", "now.types[s] == type ?",
            "now.kinds[s] == kind && now.types[s] == type ?", "now.kinds[s] == kind ?",
            "s < now.stateCount; s++", "s + 1 < now.stateCount; s++"));
        all.add(Sentence.promise(2, "FULL.", c -> {
            KeyStates x = new KeyStates();
            for (int n = 0; n < 7; n++) {
                x.state(n, VALUE, 0);
            }
            c.is("the eighth", 7, x.state(7, VALUE, 0));
            c.is("a ninth", FULL, x.state(8, VALUE, 0));
            c.is("a ninth again", FULL, x.state(LEAST, MAP, 2));
            c.is("eight", 8, x.told(0));
        },
            "MOST_STATES = 8", "MOST_STATES = 7",
            "MOST_STATES = 8", "MOST_STATES = 9",
            "if (now.stateCount >= MOST_STATES) { return FULL;", "if (now.stateCount >= MOST_STATES) { return NO;"));
    }

    private static void keyLeaveAndSpan(List<Sentence> all) {
        all.add(Sentence.promise(3, "A KEY is at hand.", c -> {
            KeyStates x = new KeyStates();
            x.state(1, VALUE, 0);
            long[] keys = {0, -1, 1, Long.MIN_VALUE, Long.MAX_VALUE, 1L << 32};
            for (long key : keys) {
                x.key(key);
                c.is("an entry of key " + key, 1, x.put(0, key));
            }
            for (long key : keys) {
                x.key(key);
                x.key(key);
                c.is("key " + key + " again", key, x.value(0));
            }
            c.isTrue("one is at hand", x.leave());
        },
            "hasKey = true; keyAtHand = key;", "keyAtHand = key;",
            "keyAtHand = key;", "keyAtHand = (int) key;",
            "hasKey = true; keyAtHand = key;", "hasKey = key != 0; keyAtHand = key;"));
        all.add(Sentence.promise(4, "No KEY is at hand any more", c -> {
            KeyStates x = Make.eachKind();
            x.put(0, 5);
            x.leave();
            c.badState("no key", () -> x.value(0));
            x.leave();
            c.badState("nor then", () -> x.put(0, 6));
            c.is("the entry stays", 1, x.told(1));
            x.key(1);
            c.is("with the key it is there again", 5, x.value(0));
        },
            "hasKey = false; return had;", "return had;",
            "hasKey = false; return had;", "hasKey = !hasKey; return had;"));
        all.add(Sentence.promise(4, "whether one was.", c -> {
            KeyStates x = new KeyStates();
            c.isFalse("at first", x.leave());
            x.key(0);
            c.isTrue("after a key", x.leave());
            c.isFalse("after leaving", x.leave());
            x.key(3);
            x.key(4);
            c.isTrue("after two keys", x.leave());
            c.isFalse("one leave is enough", x.leave());
        },
            "return had;", "return !had;",
            "return had;", "return true;",
            "boolean had = hasKey;", "boolean had = hasKey && keyAtHand != 0;"));
        all.add(Sentence.promise(5, "A SPAN is at hand", c -> {
            KeyStates x = Make.eachKind();
            int[] spans = {LEAST, -1, 0, 1, MOST};
            for (int span : spans) {
                x.span(span);
                c.is("an entry in span " + span, 1, x.put(0, span));
            }
            for (int span : spans) {
                x.span(span);
                c.is("the entry in span " + span, span, x.value(0));
                c.is("as it is asked for", span, x.ask(-1, 0, 1, span, 0));
            }
            x.leave();
            x.span(7);
            x.key(1);
            c.is("a span without a key", 0, x.size(0));
        },
            "spanAtHand = span;", "",
            "spanAtHand = span;", "spanAtHand = Math.max(span, 0);"));
        all.add(Sentence.promise(5, "which one was.", c -> {
            KeyStates x = new KeyStates();
            c.is("at first", 0, x.span(LEAST));
            c.is("the least", LEAST, x.span(MOST));
            c.is("the greatest", MOST, x.span(-3));
            c.is("-3", -3, x.span(-3));
            x.key(4);
            x.leave();
            c.is("a key changes it not", -3, x.span(0));
        },
            "return before;", "return spanAtHand;"));
    }

    private static void putAndValue(List<Sentence> all) {
        all.add(Sentence.promise(6, "VALUE: its number becomes v", c -> {
            KeyStates x = Make.eachKind();
            for (long v : new long[] {Long.MIN_VALUE, 0, Long.MAX_VALUE, -1}) {
                x.put(0, v);
                c.is("the number", v, x.value(0));
                c.is("one number", 1, x.size(0));
            }
            c.badArgument("a list", () -> x.put(1, 0));
            c.badArgument("a map", () -> x.put(2, 0));
            c.badArgument("a fold", () -> x.put(3, 0));
        },
            "keep(old.withOnly(v));", "keep(old.withOneMore(v));",
            "keep(old.withOnly(v));", "if (old.isNone()) { keep(old.withOnly(v)); }",
            "keep(old.withOnly(v));", "keep(old.withOnly((int) v));",
            "needToWrite(state, VALUE, v);", "needToWrite(state, now.kinds[state & 3], v);"));
        all.add(Sentence.promise(6, "1: there was no ENTRY, 0", c -> {
            KeyStates x = Make.eachKind();
            c.is("the first time", 1, x.put(0, 0));
            c.is("the second", 0, x.put(0, 0));
            c.is("another number", 0, x.put(0, 9));
            x.clear(0);
            c.is("after it was cleared", 1, x.put(0, 9));
            x.clearSpan();
            c.is("after the span was", 1, x.put(0, 9));
            x.span(1);
            c.is("in another span", 1, x.put(0, 9));
            x.key(2);
            c.is("for another key", 1, x.put(0, 9));
        },
            "return old.isNone() ? 1 : 0;", "return old.isNone() ? 0 : 1;",
            "return old.isNone() ? 1 : 0;", "return 1;",
            "return old.isNone() ? 1 : 0;", "return 0;"));
        all.add(Sentence.promise(6, "FULL.", c -> {
            KeyStates x = Make.with(149);
            c.is("the 150th", 1, x.put(0, 1));
            x.key(2);
            c.is("the 151st", FULL, x.put(0, 1));
            c.is("150", 150, x.told(1));
            c.is("it is not there", 0, x.size(0));
            x.key(1000);
            c.is("one that is there", 0, x.put(0, -5));
            c.is("has the number", -5, x.value(0));
            x.clear(0);
            c.is("room for one", 1, x.put(0, 1));
        },
            "MOST_ENTRIES = 150", "MOST_ENTRIES = 149",
            "MOST_ENTRIES = 150", "MOST_ENTRIES = 151",
            "if (hasNoRoomFor(old)) { return FULL; } keep(old.withOnly(v));", "keep(old.withOnly(v));",
            "return old.isNone() && now.countEntries() >= MOST_ENTRIES;",
                "return now.countEntries() >= MOST_ENTRIES;",
            "if (hasNoRoomFor(old)) { return FULL; } keep(old.withOnly(v));",
                "if (hasNoRoomFor(old)) { return NO; } keep(old.withOnly(v));"));
        all.add(Sentence.promise(7, "VALUE, FOLD: the number.", c -> {
            KeyStates x = Make.eachKind();
            x.put(0, Long.MIN_VALUE);
            c.is("a value's", Long.MIN_VALUE, x.value(0));
            x.fold(3, Long.MAX_VALUE);
            c.is("a fold's", Long.MAX_VALUE, x.value(3));
            x.fold(3, -2);
            c.is("a fold's then", Long.MAX_VALUE - 2, x.value(3));
            c.is("reading changes it not", Long.MAX_VALUE - 2, x.value(3));
            x.add(1, 1);
            x.set(2, 1, 1);
            c.badArgument("a list's", () -> x.value(1));
            c.badArgument("a map's", () -> x.value(2));
        },
            "needToRead(state, VALUE, FOLD);", "needToRead(state, VALUE, VALUE);",
            "needToRead(state, VALUE, FOLD);", "needToRead(state, FOLD, FOLD);",
            "needToRead(state, VALUE, FOLD);", "needToRead(state, VALUE, now.kinds[state]);",
            "return entry.numbers[0];", "return (int) entry.numbers[0];"));
        all.add(Sentence.promise(7, "NoSuchElementException: there is no ENTRY.", c -> {
            KeyStates x = Make.eachKind();
            c.noElement("no value yet", () -> x.value(0));
            c.noElement("no fold yet", () -> x.value(3));
            x.put(0, 0);
            x.fold(3, 0);
            c.is("0 is a number", 0, x.value(0));
            x.span(1);
            c.noElement("not in another span", () -> x.value(0));
            c.noElement("nor a fold", () -> x.value(3));
            x.span(0);
            x.clear(0);
            x.clear(3);
            c.noElement("cleared", () -> x.value(0));
            c.noElement("the fold too", () -> x.value(3));
        },
            "throw new NoSuchElementException(\"there is no entry\");", "return 0;",
            "throw new NoSuchElementException(\"there is no entry\");", "throw new IllegalStateException();",
            "throw new NoSuchElementException(\"there is no entry\");", "throw new IndexOutOfBoundsException();"));
    }

    private static void addAndItem(List<Sentence> all) {
        all.add(Sentence.promise(8, "LIST: a number more: how many it has.", c -> {
            KeyStates x = Make.eachKind();
            for (int n = 1; n <= 10; n++) {
                c.is("number " + n, n, x.add(1, n % 2 == 0 ? Long.MIN_VALUE : n));
            }
            c.is("the first", 1, x.item(1, 0));
            c.is("the last", Long.MIN_VALUE, x.item(1, 9));
            x.key(2);
            c.is("another key's first", 1, x.add(1, 5));
            x.clear(1);
            c.is("the first again", 1, x.add(1, 5));
            c.badArgument("a value", () -> x.add(0, 0));
            c.badArgument("a map", () -> x.add(2, 0));
            c.badArgument("a fold", () -> x.add(3, 0));
        },
            "return old.numbers.length + 1;", "return old.numbers.length;",
            "keep(old.withOneMore(v));", "keep(old.withOnly(v));",
            "inserted(numbers, numbers.length, v)", "inserted(numbers, 0, v)"));
        all.add(Sentence.promise(8, "FULL: 10", c -> {
            KeyStates x = Make.eachKind();
            for (int n = 1; n < 10; n++) {
                x.add(1, n);
            }
            c.is("the tenth", 10, x.add(1, 10));
            c.is("an eleventh", FULL, x.add(1, 11));
            c.is("once more", FULL, x.add(1, 11));
            c.is("ten", 10, x.size(1));
            c.is("the tenth is the last", 10, x.item(1, 9));
            x.span(1);
            c.is("another entry has room", 1, x.add(1, 11));
        },
            "old.numbers.length >= MOST_NUMBERS ||", "old.numbers.length > MOST_NUMBERS ||",
            "old.numbers.length >= MOST_NUMBERS ||", "old.numbers.length >= MOST_NUMBERS - 1 ||",
            "if (old.numbers.length >= MOST_NUMBERS || hasNoRoomFor(old)) { return FULL;",
                "if (old.numbers.length >= MOST_NUMBERS) { return NO; } if (hasNoRoomFor(old)) { return FULL;"));
        all.add(Sentence.promise(8, "or 150 ENTRIES.", c -> {
            KeyStates x = Make.with(149);
            c.is("the 150th", 1, x.add(1, 1));
            c.is("a number more of it", 2, x.add(1, 1));
            x.key(2);
            c.is("the 151st", FULL, x.add(1, 1));
            c.is("it is not there", 0, x.size(1));
            c.is("150", 150, x.told(1));
            x.key(1000);
            x.clear(0);
            c.is("room for one", 1, x.add(1, 1));
        },
            "old.numbers.length >= MOST_NUMBERS || hasNoRoomFor(old)", "old.numbers.length >= MOST_NUMBERS",
            "old.numbers.length >= MOST_NUMBERS || hasNoRoomFor(old)",
                "old.numbers.length >= MOST_NUMBERS || now.countEntries() >= MOST_ENTRIES",
            "MOST_ENTRIES = 150", "MOST_ENTRIES = 149"));
        all.add(Sentence.promise(9, "LIST: number i", c -> {
            KeyStates x = Make.eachKind();
            for (int n = 0; n < 10; n++) {
                x.add(1, 50 - 7 * n);
            }
            for (int n = 0; n < 10; n++) {
                c.is("number " + n, 50 - 7 * n, x.item(1, n));
            }
        },
            "needToRead(state, LIST, MAP);", "needToRead(state, MAP, MAP);",
            "return row[i];", "return row[row.length - 1 - i];"));
        all.add(Sentence.promise(9, "MAP: that of the i-th MEMBER by rising ones.", c -> {
            KeyStates x = Make.eachKind();
            x.set(2, 0, 1);
            x.set(2, Long.MAX_VALUE, 2);
            x.set(2, Long.MIN_VALUE, 3);
            x.set(2, -1, 4);
            x.set(2, 1L << 32, 5);
            long[] due = {3, 4, 1, 5, 2};
            for (int n = 0; n < due.length; n++) {
                c.is("that of member " + n, due[n], x.item(2, n));
            }
            x.set(2, -1, 9);
            c.is("the number it has now", 9, x.item(2, 1));
            x.remove(2, Long.MIN_VALUE);
            c.is("the least that is left", 9, x.item(2, 0));
        },
            "needToRead(state, LIST, MAP);", "needToRead(state, LIST, LIST);",
            "int placeOf(long member) { return countBelow(members, members.length, member);",
                "int placeOf(long member) { return members.length > 0 && members[0] == member ? 0 : members.length;",
            "return numberAt(entryAtHand(state).numbers, i);",
                "return numberAt(now.kinds[state] == MAP ? entryAtHand(state).members : entryAtHand(state).numbers, i);",
            "row[at] < x) {", "(int) row[at] < (int) x) {"));
        all.add(Sentence.promise(9, "IndexOutOfBoundsException: none such.", c -> {
            KeyStates x = Make.eachKind();
            for (int s = LIST; s <= MAP; s++) {
                int state = s;
                c.outOfBounds("no entry of kind " + s, () -> x.item(state, 0));
                Make.write(x, s, 6);
                c.is("the first of kind " + s, 6, x.item(state, 0));
                for (int i : new int[] {1, -1, 10, LEAST, MOST}) {
                    c.outOfBounds(i + " of kind " + s, () -> x.item(state, i));
                }
                x.key(2);
                c.outOfBounds("another key's of kind " + s, () -> x.item(state, 0));
                x.key(1);
            }
        },
            "if (i < 0 || i >= row.length) {", "if (i >= row.length) {",
            "if (i < 0 || i >= row.length) {", "if (i < 0 || i > row.length) {",
            "throw new IndexOutOfBoundsException(\"none such\");", "return 0;",
            "throw new IndexOutOfBoundsException(\"none such\");", "throw new NoSuchElementException();"));
    }

    private static void set(List<Sentence> all) {
        all.add(Sentence.promise(10, "MAP: a MEMBER has the number v", c -> {
            KeyStates x = Make.eachKind();
            long[] members = {0, Long.MAX_VALUE, -1, Long.MIN_VALUE, 1L << 32};
            for (long m : members) {
                x.set(2, m, ~m);
            }
            for (long m : members) {
                c.is("member " + m, ~m, x.get(2, m));
            }
            x.set(2, -1, 77);
            c.is("another number", 77, x.get(2, -1));
            c.is("the others stay", -1, x.get(2, 0));
            c.is("five", 5, x.size(2));
            c.badArgument("a value", () -> x.set(0, 0, 0));
            c.badArgument("a list", () -> x.set(1, 0, 0));
            c.badArgument("a fold", () -> x.set(3, 0, 0));
        },
            "changed[at] = v;", "",
            "inserted(numbers, at, v)", "inserted(numbers, 0, v)",
            "inserted(members, at, member)", "inserted(members, 0, member)",
            "inserted(members, at, member)", "inserted(members, at, (int) member)"));
        all.add(Sentence.promise(10, "1: it was not there, 0", c -> {
            KeyStates x = Make.eachKind();
            c.is("the first", 1, x.set(2, 5, 5));
            c.is("again", 0, x.set(2, 5, 5));
            c.is("again with another number", 0, x.set(2, 5, 6));
            c.is("a lesser one", 1, x.set(2, 4, 5));
            c.is("a greater one", 1, x.set(2, 6, 5));
            c.is("the greatest again", 0, x.set(2, 6, 5));
            x.remove(2, 5);
            c.is("after it was removed", 1, x.set(2, 5, 5));
            x.span(1);
            c.is("in another span", 1, x.set(2, 5, 5));
        },
            "keep(old.withNumberAt(at, v)); return 0;", "keep(old.withNumberAt(at, v)); return 1;",
            "keep(old.withMember(at, member, v)); return 1;", "keep(old.withMember(at, member, v)); return 0;",
            "keep(old.withMember(at, member, v)); return 1;",
                "keep(old.withMember(at, member, v)); return old.isNone() ? 1 : 0;"));
        all.add(Sentence.promise(10, "FULL: 10", c -> {
            KeyStates x = Make.eachKind();
            for (int m = 1; m < 10; m++) {
                x.set(2, m * 10, m);
            }
            c.is("the tenth", 1, x.set(2, 100, 10));
            c.is("an eleventh, above all", FULL, x.set(2, 101, 1));
            c.is("below all", FULL, x.set(2, 1, 1));
            c.is("between", FULL, x.set(2, 11, 1));
            c.is("ten", 10, x.size(2));
            c.noElement("it is not there", () -> x.get(2, 11));
            c.is("one that is there", 0, x.set(2, 100, -1));
            c.is("has its number", -1, x.get(2, 100));
            x.remove(2, 10);
            c.is("room for one", 1, x.set(2, 11, 1));
            c.is("but no more", FULL, x.set(2, 10, 1));
        },
            "old.members.length >= MOST_NUMBERS ||", "old.members.length > MOST_NUMBERS ||",
            "old.members.length >= MOST_NUMBERS ||", "old.members.length >= MOST_NUMBERS - 1 ||",
            "if (old.hasMember(at, member)) {",
                "if (old.members.length >= MOST_NUMBERS) { return FULL; } if (old.hasMember(at, member)) {",
            "if (old.members.length >= MOST_NUMBERS || hasNoRoomFor(old)) { return FULL;",
                "if (old.members.length >= MOST_NUMBERS) { return NO; } if (hasNoRoomFor(old)) { return FULL;"));
        all.add(Sentence.promise(10, "or 150 ENTRIES.", c -> {
            KeyStates x = Make.with(149);
            c.is("the 150th", 1, x.set(2, 1, 1));
            c.is("a member more of it", 1, x.set(2, 2, 1));
            c.is("one that is there", 0, x.set(2, 2, 2));
            x.key(2);
            c.is("the 151st", FULL, x.set(2, 1, 1));
            c.is("it is not there", 0, x.size(2));
            c.is("150", 150, x.told(1));
            x.key(1000);
            x.clear(0);
            c.is("room for one", 1, x.set(2, 1, 1));
        },
            "old.members.length >= MOST_NUMBERS || hasNoRoomFor(old)", "old.members.length >= MOST_NUMBERS",
            "old.members.length >= MOST_NUMBERS || hasNoRoomFor(old)",
                "old.members.length >= MOST_NUMBERS || now.countEntries() >= MOST_ENTRIES",
            "MOST_ENTRIES = 150", "MOST_ENTRIES = 149"));
    }

    private static void getMemberAndRemove(List<Sentence> all) {
        all.add(Sentence.promise(11, "MAP: the number of a MEMBER.", c -> {
            KeyStates x = Make.eachKind();
            x.set(2, Long.MAX_VALUE, Long.MIN_VALUE);
            x.set(2, Long.MIN_VALUE, Long.MAX_VALUE);
            x.set(2, 0, 5);
            c.is("the greatest member's", Long.MIN_VALUE, x.get(2, Long.MAX_VALUE));
            c.is("the least member's", Long.MAX_VALUE, x.get(2, Long.MIN_VALUE));
            c.is("that of 0", 5, x.get(2, 0));
            c.badArgument("a value", () -> x.get(0, 0));
            c.badArgument("a list", () -> x.get(1, 0));
            c.badArgument("a fold", () -> x.get(3, 0));
        },
            "return entry.numbers[at];", "return entry.numbers[0];",
            "return entry.numbers[at];", "return entry.members[at];"));
        all.add(Sentence.promise(11, "NoSuchElementException: it is not there.", c -> {
            KeyStates x = Make.eachKind();
            c.noElement("no entry", () -> x.get(2, 0));
            x.set(2, 3, 0);
            x.set(2, 5, 0);
            for (long m : new long[] {2, 4, 6, 0, Long.MIN_VALUE, Long.MAX_VALUE, 3 - (1L << 32)}) {
                c.noElement("member " + m, () -> x.get(2, m));
            }
            c.is("the number 0 is one", 0, x.get(2, 3));
            x.remove(2, 3);
            c.noElement("removed", () -> x.get(2, 3));
            x.key(2);
            c.noElement("another key's", () -> x.get(2, 5));
        },
            "throw new NoSuchElementException(\"the member is not there\");", "return 0;",
            "throw new NoSuchElementException(\"the member is not there\");",
                "throw new IndexOutOfBoundsException();",
            "return at < members.length && members[at] == member;", "return at < members.length;",
            "members[at] == member;", "(int) members[at] == (int) member;"));
        all.add(Sentence.promise(12, "MAP: the i-th MEMBER, by rising ones.", c -> {
            KeyStates x = Make.eachKind();
            long[] members = {4, -4, Long.MAX_VALUE, 0, Long.MIN_VALUE, 1L << 32, -(1L << 32), 5, 3, 1};
            for (long m : members) {
                x.set(2, m, -m);
            }
            java.util.Arrays.sort(members);
            for (int n = 0; n < 10; n++) {
                c.is("member " + n, members[n], x.member(2, n));
            }
            x.remove(2, 0);
            c.is("the one before it", -4, x.member(2, 2));
            c.is("the one after it", 1, x.member(2, 3));
            c.badArgument("a list", () -> x.member(1, 0));
            c.badArgument("a value", () -> x.member(0, 0));
            c.badArgument("a fold", () -> x.member(3, 0));
        },
            "return numberAt(entryAtHand(state).members, i);", "return numberAt(entryAtHand(state).numbers, i);",
            "row[at] < x) {", "row[at] - x < 0) {",
            "without(members, at)", "without(members, 0)"));
        all.add(Sentence.promise(12, "IndexOutOfBoundsException: none such.", c -> {
            KeyStates x = Make.eachKind();
            c.outOfBounds("no entry", () -> x.member(2, 0));
            x.set(2, 0, 0);
            c.is("the first", 0, x.member(2, 0));
            for (int i : new int[] {1, -1, 10, LEAST, MOST}) {
                c.outOfBounds("member " + i, () -> x.member(2, i));
            }
            for (int m = 1; m < 10; m++) {
                x.set(2, m, 0);
            }
            c.is("the tenth", 9, x.member(2, 9));
            c.outOfBounds("an eleventh", () -> x.member(2, 10));
            x.span(1);
            c.outOfBounds("another span's", () -> x.member(2, 0));
        },
            "if (i < 0 || i >= row.length) {", "if (i >= row.length) {",
            "if (i < 0 || i >= row.length) {", "if (i < 0 || i > row.length) {",
            "throw new IndexOutOfBoundsException(\"none such\");", "return 0;",
            "throw new IndexOutOfBoundsException(\"none such\");", "throw new NoSuchElementException();"));
        all.add(Sentence.promise(13, "MAP: a MEMBER goes", c -> {
            KeyStates x = Make.eachKind();
            for (int m = 1; m <= 5; m++) {
                x.set(2, m, m * 10);
            }
            x.remove(2, 3);
            c.is("one from between", 4, x.size(2));
            c.noElement("it is gone", () -> x.get(2, 3));
            x.remove(2, 1);
            x.remove(2, 5);
            c.is("the first left", 2, x.member(2, 0));
            c.is("its number", 20, x.item(2, 0));
            c.is("the last left", 4, x.member(2, 1));
            c.is("its number too", 40, x.item(2, 1));
            x.remove(2, 2);
            c.is("one left", 1, x.told(6));
            x.remove(2, 4);
            c.is("none left: no entry", 0, x.told(1));
            c.badArgument("a value", () -> Check.bit(x.remove(0, 0)));
            c.badArgument("a list", () -> Check.bit(x.remove(1, 0)));
            c.badArgument("a fold", () -> Check.bit(x.remove(3, 0)));
        },
            "keep(old.withoutMember(at));", "",
            "without(numbers, at)", "without(numbers, 0)",
            "without(members, at)", "without(members, 0)",
            "rows[row] = entry.isNone() ? null : entry;", "rows[row] = entry;",
            "keep(old.withoutMember(at));", "keep(old.withNothing());"));
        all.add(Sentence.promise(13, "whether it was there.", c -> {
            KeyStates x = Make.eachKind();
            c.isFalse("no entry", x.remove(2, 0));
            x.set(2, 3, 0);
            x.set(2, 5, 0);
            for (long m : new long[] {2, 4, 6, Long.MIN_VALUE, Long.MAX_VALUE, 3 - (1L << 32)}) {
                c.isFalse("member " + m, x.remove(2, m));
            }
            c.is("two still", 2, x.size(2));
            c.isTrue("one that is there", x.remove(2, 5));
            c.isFalse("not any more", x.remove(2, 5));
            c.isTrue("the last", x.remove(2, 3));
            c.isFalse("not any more either", x.remove(2, 3));
        },
            "keep(old.withoutMember(at)); return true;", "keep(old.withoutMember(at)); return false;",
            "if (!old.hasMember(at, member)) { return false;", "if (!old.hasMember(at, member)) { return true;",
            "members[at] == member;", "(int) members[at] == (int) member;"));
    }

    private static void fold(List<Sentence> all) {
        all.add(Sentence.promise(14, "FOLD: one number more is folded", c -> {
            KeyStates x = Make.states(FOLD, 0, FOLD, 1, FOLD, 2, VALUE, 0, LIST, 0, MAP, 0);
            long[] numbers = {5, -2, Long.MAX_VALUE, 9, Long.MIN_VALUE, 3};
            long[] sums = {5, 3, Long.MIN_VALUE + 2, Long.MIN_VALUE + 11, 11, 14};
            long[] least = {5, -2, -2, -2, Long.MIN_VALUE, Long.MIN_VALUE};
            long[] greatest = {5, 5, Long.MAX_VALUE, Long.MAX_VALUE, Long.MAX_VALUE, Long.MAX_VALUE};
            for (int n = 0; n < numbers.length; n++) {
                for (int s = 0; s < 3; s++) {
                    x.fold(s, numbers[n]);
                }
                c.is("the sum of " + (n + 1), sums[n], x.value(0));
                c.is("the least of " + (n + 1), least[n], x.value(1));
                c.is("the greatest of " + (n + 1), greatest[n], x.value(2));
            }
            for (int s = 3; s < 6; s++) {
                int state = s;
                c.badArgument("another kind", () -> x.fold(state, 0));
            }
        },
            "keep(old.withFolded(now.types[state], v));", "keep(old.withFolded(0, v));",
            "keep(old.withFolded(now.types[state], v));",
                "if (old.isNone()) { keep(old.withFolded(now.types[state], v)); }",
            "joined(type, numbers[0], v)", "joined(type, numbers[0], numbers[0])"));
        all.add(Sentence.promise(14, "how many were", c -> {
            KeyStates x = Make.eachKind();
            for (int n = 1; n <= 30; n++) {
                c.is("fold " + n, n, x.fold(3, 0));
            }
            x.key(2);
            c.is("another key's first", 1, x.fold(3, 0));
            x.clear(3);
            c.is("the first after it was cleared", 1, x.fold(3, 0));
            x.key(1);
            c.is("the first key's again", 31, x.fold(3, 0));
        },
            "return old.folded + 1;", "return old.folded;",
            "return old.folded + 1;", "return Math.min(old.folded + 1, MOST_NUMBERS);",
            "EMPTY, folded + 1)", "EMPTY, 1)"));
        all.add(Sentence.promise(14, "FULL.", c -> {
            KeyStates x = Make.with(149);
            c.is("the 150th", 1, x.fold(3, 1));
            c.is("more of it", 2, x.fold(3, 1));
            x.key(2);
            c.is("the 151st", FULL, x.fold(3, 1));
            c.is("it is not there", 0, x.size(3));
            c.is("150", 150, x.told(1));
            x.key(1000);
            x.clear(0);
            c.is("room for one", 1, x.fold(3, 1));
        },
            "if (hasNoRoomFor(old)) { return FULL; } keep(old.withFolded", "keep(old.withFolded",
            "if (hasNoRoomFor(old)) { return FULL; } keep(old.withFolded",
                "if (now.countEntries() >= MOST_ENTRIES) { return FULL; } keep(old.withFolded",
            "MOST_ENTRIES = 150", "MOST_ENTRIES = 149"));
    }

    private static void sizeAndClear(List<Sentence> all) {
        all.add(Sentence.promise(15, "How many numbers the ENTRY has", c -> {
            KeyStates x = Make.eachKind();
            x.put(0, 0);
            c.is("a value", 1, x.size(0));
            x.put(0, 1);
            c.is("a value again", 1, x.size(0));
            for (int n = 1; n <= 10; n++) {
                x.add(1, 0);
                c.is("a list of " + n, n, x.size(1));
                x.set(2, n, 0);
                c.is("a map of " + n, n, x.size(2));
            }
            x.add(1, 0);
            x.set(2, 1, 0);
            c.is("a list stays", 10, x.size(1));
            c.is("a map stays", 10, x.size(2));
            x.remove(2, 10);
            c.is("a map of nine", 9, x.size(2));
        },
            "? entry.folded : entry.numbers.length;", "? entry.folded : entry.members.length;",
            "? entry.folded : entry.numbers.length;", "? entry.folded : Math.min(9, entry.numbers.length);"));
        all.add(Sentence.promise(15, "(FOLD: how many were folded)", c -> {
            KeyStates x = Make.eachKind();
            for (int n = 1; n <= 12; n++) {
                x.fold(3, -n);
                c.is("a fold of " + n, n, x.size(3));
            }
            x.add(1, 5);
            x.add(1, 6);
            x.move(1, FOLD, 2);
            c.is("a list that was moved", 2, x.size(1));
        },
            "? entry.folded : entry.numbers.length;", "? entry.numbers.length : entry.numbers.length;",
            "? entry.folded : entry.numbers.length;", "? Math.min(10, entry.folded) : entry.numbers.length;"));
        all.add(Sentence.promise(15, "0: there is none.", c -> {
            KeyStates x = Make.eachKind();
            for (int s = 0; s < 4; s++) {
                c.is("none yet of kind " + s, 0, x.size(s));
                Make.write(x, s, 1);
                x.key(2);
                c.is("none for another key", 0, x.size(s));
                x.key(1);
                x.span(16);
                c.is("none in another span, on the same page", 0, x.size(s));
                x.span(0);
                x.clear(s);
                c.is("none any more", 0, x.size(s));
            }
            c.is("asking makes none", 0, x.told(1));
        },
            "Entry entry = entryAtHand(state); return now.kinds",
                "Entry entry = entryAtHand(state); if (entry.isNone()) { throw new NoSuchElementException(); } return now.kinds",
            "&& span == otherSpan", "",
            "keep(old.withNothing());", ""));
        all.add(Sentence.promise(16, "The ENTRY goes", c -> {
            KeyStates x = Make.eachKind();
            for (int s = 0; s < 4; s++) {
                Make.write(x, s, 1);
                Make.write(x, s, 2);
                x.key(2);
                Make.write(x, s, 3);
                x.key(1);
            }
            for (int s = 0; s < 4; s++) {
                x.clear(s);
                c.is("one less", 7 - s, x.told(1));
                c.is("nothing is left of it", 0, x.size(s));
                c.is("another key's stays", 3, x.ask(-1, s, 2, 0, 0));
            }
            c.is("a fold begins anew", 1, x.fold(3, 7));
            c.is("with its number", 7, x.value(3));
            c.is("a list too", 1, x.add(1, 8));
        },
            "keep(old.withNothing());", "",
            "keep(old.withNothing());",
                "pageToChange(pageNumber(state, keyAtHand, spanAtHand)).loseSpan(spanAtHand);",
            "rows[row] = entry.isNone() ? null : entry;", "rows[row] = entry;"));
        all.add(Sentence.promise(16, "whether there was one.", c -> {
            KeyStates x = Make.eachKind();
            for (int s = 0; s < 4; s++) {
                c.isFalse("not yet, of kind " + s, x.clear(s));
                Make.write(x, s, 0);
                x.span(1);
                c.isFalse("not in another span", x.clear(s));
                x.span(0);
                c.isTrue("now", x.clear(s));
                c.isFalse("not any more", x.clear(s));
            }
            x.set(2, 1, 1);
            x.remove(2, 1);
            c.isFalse("a map without members", x.clear(2));
        },
            "if (old.isNone()) { return false;", "if (old.isNone()) { return true;",
            "keep(old.withNothing()); return true;", "keep(old.withNothing()); return false;"));
    }
}
