import java.util.ArrayList;
import java.util.List;

/** The document's terms: states, what fits, entries, what is at hand, pages, snapshots, copies. */
final class TermSentences {
    private static final int VALUE = Make.VALUE, LIST = Make.LIST, MAP = Make.MAP, FOLD = Make.FOLD;
    private static final int BAD = Make.BAD, NO = Make.NO, FULL = Make.FULL;
    private static final int LEAST = Make.LEAST, MOST = Make.MOST;
    private static final long[] FAR = {Long.MIN_VALUE, -1001, -1000, -1, 0, 1, 1000, 1001, Long.MAX_VALUE};

    private TermSentences() {
    }

    static List<Sentence> all() {
        List<Sentence> all = new ArrayList<>();
        all.add(new Sentence("What it is", "An object is used for at most 512 calls after it has been made",
            TermSentences::fiveHundredTwelveCalls, new String[] {
                "now.taken(snapshotsTaken)", "now.taken(snapshotsTaken % 250)",
                "return old.folded + 1;", "return Math.min(old.folded + 1, 500);"}));
        states(all);
        fitting(all);
        entries(all);
        folds(all);
        atHand(all);
        pages(all);
        snapshots(all);
        copies(all);
        return all;
    }

    private static void fiveHundredTwelveCalls(Check c) {
        KeyStates x = Make.states(FOLD, 0);
        int folded = 0;
        for (int n = 0; n < 510; n++) {
            folded = x.fold(0, 1);
        }
        c.is("the 512th call, a fold", 510, folded);
        KeyStates y = new KeyStates();
        int number = 0;
        int shared = 0;
        for (int n = 0; n < 256; n++) {
            number = y.snapshot();
            shared = y.drop(number);
        }
        c.is("the 511th call, a snapshot", 255, number);
        c.is("the 512th call, a drop", 0, shared);
        KeyStates z = Make.states(VALUE, 0);
        for (int n = 0; n < 169; n++) {
            z.snapshot();
            z.put(0, n);
            z.drop(n);
        }
        c.is("copies of 507 calls", 169, z.told(4));
    }

    private static void states(List<Sentence> all) {
        all.add(Sentence.terms("STATES are numbered as they are told, 8 at most", c -> {
            KeyStates x = new KeyStates();
            for (int n = 0; n < 8; n++) {
                c.is("the number of state " + n, n, x.state(50 - n, n % 4, n % 3));
            }
            c.is("a ninth", FULL, x.state(60, 0, 0));
            c.is("how many", 8, x.told(0));
            c.is("the eighth is there", 43, x.of(7, 0));
            c.outOfBounds("the ninth is not", () -> x.of(8, 0));
        },
            "MOST_STATES = 8", "MOST_STATES = 9",
            "MOST_STATES = 8", "MOST_STATES = 7"));
        all.add(Sentence.terms("each has a NAME, a KIND (0 VALUE, 1 LIST, 2 MAP, 3 FOLD) and a TYPE (0 .. 2).", c -> {
            int[] names = {0, -1, LEAST, MOST};
            for (int type = 0; type <= 2; type++) {
                KeyStates x = new KeyStates();
                for (int kind = 0; kind <= 3; kind++) {
                    c.is("kind " + kind + ", type " + type, kind, x.state(names[kind], kind, type));
                    c.is("its name", names[kind], x.of(kind, 0));
                    c.is("its kind", kind, x.of(kind, 1));
                    c.is("its type", type, x.of(kind, 2));
                }
                x.key(1);
                c.is("0 is a VALUE", 1, x.put(0, 5));
                c.is("1 is a LIST", 1, x.add(1, 5));
                c.is("2 is a MAP", 1, x.set(2, 5, 5));
                c.is("3 is a FOLD", 1, x.fold(3, 5));
            }
        },
            "KINDS = 4", "KINDS = 3",
            "TYPES = 3", "TYPES = 2",
            "LIST = 1, MAP = 2", "LIST = 2, MAP = 1"));
    }

    private static void fitting(List<Sentence> all) {
        all.add(Sentence.terms("A number FITS a VALUE, LIST or MAP of TYPE 0 always", c -> {
            for (int kind = VALUE; kind <= MAP; kind++) {
                KeyStates x = Make.states(kind, 0);
                for (long v : FAR) {
                    c.is(v + " for kind " + kind, 1, Make.write(x, 0, v));
                    c.is(v + " as it is kept", v, x.ask(-1, 0, 1, 0, 0));
                    x.clear(0);
                }
            }
        },
            "kind == FOLD || type == 0", "kind == FOLD || type == 0 && v != Long.MIN_VALUE",
            "kind == FOLD || type == 0", "kind == FOLD"));
        all.add(Sentence.terms("of 1 if it is -1000 .. 1000", c -> fitsOnlyFrom(c, 1, -1000, 1000),
            "v >= -1000", "v > -1000",
            "v >= -1000", "v >= -1001",
            "v <= 1000", "v < 1000",
            "v <= 1000", "v <= 1001",
            "v >= -1000 &&", "v != -1001 &&",
            "v <= 1000", "v != 1001"));
        all.add(Sentence.terms("of 2 if it is not below 0", c -> fitsOnlyFrom(c, 2, 0, Long.MAX_VALUE),
            ": v >= 0;", ": v > 0;",
            ": v >= 0;", ": v >= -1;",
            ": v >= 0;", ": v >= 0 && v < Long.MAX_VALUE;"));
        all.add(Sentence.terms("a FOLD always.", c -> {
            for (int type = 0; type <= 2; type++) {
                for (long v : FAR) {
                    KeyStates x = Make.states(FOLD, type);
                    c.is(v + " for a fold of type " + type, 1, x.fold(0, v));
                    c.is(v + " as it is kept", v, x.value(0));
                    c.is(v + " once more", 2, x.fold(0, v));
                }
            }
        },
            "kind == FOLD || type == 0", "type == 0"));
    }

    private static void fitsOnlyFrom(Check c, int type, long least, long most) {
        for (int kind = VALUE; kind <= MAP; kind++) {
            for (long v : FAR) {
                KeyStates x = Make.states(kind, type);
                if (v >= least && v <= most) {
                    c.is(v + " for kind " + kind, 1, Make.write(x, 0, v));
                } else {
                    c.badArgument(v + " for kind " + kind, () -> Make.write(x, 0, v));
                    c.is("entries", 0, x.told(1));
                }
            }
        }
    }

    private static void entries(List<Sentence> all) {
        all.add(Sentence.terms("AN ENTRY is of a STATE, a KEY and a SPAN", c -> {
            // These two keys differ in their upper halves alone, and lie on one page.
            long[] keys = {3, (16L << 32) + 3};
            int[] spans = {0, 16};
            KeyStates x = Make.states(VALUE, 0, VALUE, 0);
            for (int n = 0; n < 8; n++) {
                x.key(keys[n & 1]);
                x.span(spans[n >> 1 & 1]);
                c.is("entry " + n + " is new", 1, x.put(n >> 2, 100 + n));
            }
            c.is("entries", 8, x.told(1));
            for (int n = 0; n < 8; n++) {
                c.is("entry " + n, 100 + n, x.ask(-1, n >> 2, keys[n & 1], spans[n >> 1 & 1], 0));
            }
        },
            "now.entryOf(state, keyAtHand", "now.entryOf(0, keyAtHand",
            "key == otherKey", "(int) key == (int) otherKey",
            "&& span == otherSpan", ""));
        all.add(Sentence.terms("150 at most are there at a time.", c -> {
            KeyStates x = Make.with(146);
            c.is("the 147th, of another span", 0, x.span(9));
            c.is("put", 1, x.put(0, 1));
            c.is("the 148th", 1, x.add(1, 1));
            c.is("the 149th", 1, x.set(2, 1, 1));
            c.is("the 150th", 1, x.fold(3, 1));
            c.is("150", 150, x.told(1));
            x.key(2);
            c.is("put of one more", FULL, x.put(0, 1));
            c.is("add of one more", FULL, x.add(1, 1));
            c.is("set of one more", FULL, x.set(2, 1, 1));
            c.is("fold of one more", FULL, x.fold(3, 1));
            x.key(1);
            x.remove(2, 1);
            c.is("149", 149, x.told(1));
            x.key(2);
            c.is("at a time: room again", 1, x.add(1, 1));
            c.is("but for one", FULL, x.put(0, 1));
            c.is("all of a span go", 4, x.clearSpan());
            c.is("room for four", 1, x.put(0, 1));
            KeyStates y = Make.states(VALUE, 0);
            for (int n = 0; n < 150; n++) {
                y.key(16 * n);
                c.is("entry " + n + " of one page", 1, y.put(0, n));
            }
            y.key(16 * 150);
            c.is("one more of it", FULL, y.put(0, 1));
            c.is("150 on it", 150, y.told(1));
            c.is("and on no other", 1, y.told(5));
            for (int n = 0; n < 150; n++) {
                c.is("the number of entry " + n, n, y.ask(-1, 0, 16 * n, 0, 0));
            }
        },
            "new Entry[first * 2]", "new Entry[first]",
            "more[r] = rows[r];", "",
            "MOST_ENTRIES = 150", "MOST_ENTRIES = 149",
            "MOST_ENTRIES = 150", "MOST_ENTRIES = 151",
            "old.isNone() && now.countEntries() >=", "old.isNone() && now.countEntriesOf(old.state) >="));
        all.add(Sentence.terms("It has, by the KIND, a number", c -> {
            KeyStates x = Make.eachKind();
            x.put(0, 7);
            x.put(0, 8);
            c.is("a VALUE has one number", 1, x.size(0));
            c.is("the last", 8, x.ask(-1, 0, 1, 0, 0));
            c.noElement("and no second", () -> x.ask(-1, 0, 1, 0, 1));
        },
            "keep(old.withOnly(v));", "keep(old.withOneMore(v));"));
        all.add(Sentence.terms("1 to 10 numbers in a row", c -> {
            KeyStates x = Make.eachKind();
            c.outOfBounds("none: no entry", () -> x.item(1, 0));
            for (int n = 0; n < 10; n++) {
                c.is("number " + n, n + 1, x.add(1, 9 - n / 2));
            }
            for (int n = 0; n < 10; n++) {
                c.is("in a row, also twice the same: " + n, 9 - n / 2, x.item(1, n));
            }
            c.is("an eleventh", FULL, x.add(1, 0));
            c.is("ten", 10, x.size(1));
        },
            "MOST_NUMBERS = 10", "MOST_NUMBERS = 9",
            "MOST_NUMBERS = 10", "MOST_NUMBERS = 11",
            "inserted(numbers, numbers.length, v)", "inserted(numbers, 0, v)"));
        all.add(Sentence.terms("1 to 10 MEMBERS, each once, each with a number", c -> {
            KeyStates x = Make.eachKind();
            for (long n = 1; n <= 10; n++) {
                long m = n * 7 % 11;
                c.is("member " + m, 1, x.set(2, m * m, m));
            }
            c.is("an eleventh", FULL, x.set(2, 0, 0));
            c.is("one of the ten again", 0, x.set(2, 100, -10));
            c.is("each once", 10, x.size(2));
            for (int n = 0; n < 9; n++) {
                c.is("its number", n + 1, x.get(2, (n + 1) * (n + 1)));
            }
            c.is("the number that was given last", -10, x.get(2, 100));
        },
            "MOST_NUMBERS = 10", "MOST_NUMBERS = 9",
            "MOST_NUMBERS = 10", "MOST_NUMBERS = 11",
            "if (old.hasMember(at, member)) {", "if (old.hasMember(at, member) && member == 0) {",
            "inserted(numbers, at, v)", "inserted(numbers, 0, v)"));
        all.add(Sentence.terms("An ENTRY without any number is none.", c -> {
            KeyStates x = Make.eachKind();
            x.set(2, 4, 1);
            x.set(2, 5, 1);
            x.remove(2, 4);
            c.is("with one member it is there", 1, x.told(1));
            x.remove(2, 5);
            c.is("without any it is not", 0, x.told(1));
            c.is("entries", 0, x.entries(-1, 2));
            c.is("keys", 0, x.keys(2));
            c.is("pages with entries", 0, x.told(5));
            c.isFalse("nothing to clear", x.clear(2));
            c.is("nothing to move", 0, x.move(2, LIST, 0));
        },
            "rows[row] = entry.isNone() ? null : entry;", "rows[row] = entry;"));
    }

    private static void folds(List<Sentence> all) {
        all.add(Sentence.terms("or a number and how many were folded", c -> {
            KeyStates x = Make.eachKind();
            for (int n = 1; n <= 12; n++) {
                c.is("fold " + n, n, x.fold(3, 2));
            }
            c.is("the number", 24, x.value(3));
            c.is("how many, more than ten too", 12, x.size(3));
            c.noElement("there is no second number", () -> x.ask(-1, 3, 1, 0, 1));
        },
            "EMPTY, folded + 1)", "EMPTY, 1)",
            "keep(old.withFolded(now.types[state], v));",
                "if (old.folded < 10) { keep(old.withFolded(now.types[state], v)); }"));
        all.add(Sentence.terms("TYPE 0 their sum (64 bits, going round)", c -> {
            c.is("over the top", Long.MIN_VALUE, folded(0, Long.MAX_VALUE, 1));
            c.is("over the bottom", Long.MAX_VALUE, folded(0, Long.MIN_VALUE, -1));
            c.is("twice the least", 0, folded(0, Long.MIN_VALUE, Long.MIN_VALUE));
            c.is("twice the greatest", -2, folded(0, Long.MAX_VALUE, Long.MAX_VALUE));
            c.is("round and back", 5, folded(0, Long.MAX_VALUE, 6, Long.MIN_VALUE));
            c.is("more than 32 bits", 1L << 32, folded(0, 1L << 31, 1L << 31));
            c.is("the first alone", -3, folded(0, -3));
            KeyStates x = Make.eachKind();
            x.add(1, Long.MAX_VALUE);
            x.add(1, 1);
            x.move(1, FOLD, 0);
            c.is("also when moved", Long.MIN_VALUE, x.value(1));
        },
            "return a + b;", "return b > 0 && a + b < a ? Long.MAX_VALUE : a + b;",
            "return a + b;", "return b < 0 && a + b > a ? Long.MIN_VALUE : a + b;",
            "return a + b;", "return (int) (a + b);"));
        all.add(Sentence.terms("1 the least", c -> {
            c.is("the first alone, above 0", 8, folded(1, 8));
            c.is("the first alone, below 0", -8, folded(1, -8));
            c.is("a greater one", 8, folded(1, 8, 9));
            c.is("a lesser one", 7, folded(1, 8, 7));
            c.is("the same", 8, folded(1, 8, 8));
            c.is("the ends", Long.MIN_VALUE, folded(1, Long.MAX_VALUE, Long.MIN_VALUE));
            c.is("the ends, the other way", Long.MIN_VALUE, folded(1, Long.MIN_VALUE, Long.MAX_VALUE));
            c.is("the greatest alone", Long.MAX_VALUE, folded(1, Long.MAX_VALUE));
        },
            "Math.min(a, b)", "Math.max(a, b)",
            "Math.min(a, b)", "b",
            "isNone() ? v :", "isNone() ? Math.min(0, v) :",
            "Math.min(a, b)", "a - b < 0 ? a : b"));
        all.add(Sentence.terms("2 the greatest.", c -> {
            c.is("the first alone, above 0", 8, folded(2, 8));
            c.is("the first alone, below 0", -8, folded(2, -8));
            c.is("a greater one", -7, folded(2, -8, -7));
            c.is("a lesser one", -8, folded(2, -8, -9));
            c.is("the same", -8, folded(2, -8, -8));
            c.is("the ends", Long.MAX_VALUE, folded(2, Long.MAX_VALUE, Long.MIN_VALUE));
            c.is("the ends, the other way", Long.MAX_VALUE, folded(2, Long.MIN_VALUE, Long.MAX_VALUE));
            c.is("the least alone", Long.MIN_VALUE, folded(2, Long.MIN_VALUE));
        },
            "Math.max(a, b)", "Math.min(a, b)",
            "Math.max(a, b)", "b",
            "isNone() ? v :", "isNone() ? Math.max(0, v) :",
            "Math.max(a, b)", "a - b > 0 ? a : b"));
    }

    private static long folded(int type, long... numbers) {
        KeyStates x = Make.states(FOLD, type);
        for (long v : numbers) {
            x.fold(0, v);
        }
        return x.value(0);
    }

    private static void atHand(List<Sentence> all) {
        all.add(Sentence.terms("At hand are a KEY, or none (so at first)", c -> {
            KeyStates x = new KeyStates();
            x.state(1, VALUE, 0);
            c.badState("at first none", () -> x.put(0, 1));
            c.isFalse("none to leave", x.leave());
            x.key(0);
            c.is("key 0 is one", 1, x.put(0, 1));
            x.leave();
            c.badState("then none again", () -> x.put(0, 1));
            x.key(-1);
            c.is("key -1 is one", 1, x.put(0, 1));
        },
            "hasKey = false;\n    private long", "hasKey = true;\n    private long",
            "if (!hasKey) {", "if (!hasKey && keyAtHand != 0) {"));
        all.add(Sentence.terms("and a SPAN, at first 0", c -> {
            KeyStates x = Make.eachKind();
            x.put(0, 6);
            c.is("what is put at first is of span 0", 6, x.ask(-1, 0, 1, 0, 0));
            c.is("the span that was", 0, x.span(5));
            c.is("it is not of another", 0, x.size(0));
        },
            "spanAtHand = 0;", "spanAtHand = 1;"));
        all.add(Sentence.terms("\"the ENTRY\" of a STATE is that of both.", c -> {
            KeyStates x = Make.eachKind();
            x.put(0, 10);
            x.span(1);
            c.is("the same key, another span", 0, x.size(0));
            x.put(0, 11);
            x.key(2);
            c.is("the same span, another key", 0, x.size(0));
            x.put(0, 21);
            x.span(0);
            c.is("both others", 0, x.size(0));
            x.key(1);
            c.is("key 1, span 0", 10, x.value(0));
            x.span(1);
            c.is("key 1, span 1", 11, x.value(0));
            x.clear(0);
            x.key(2);
            c.is("key 2, span 1", 21, x.value(0));
            c.is("two are left", 2, x.told(1));
        },
            "now.entryOf(state, keyAtHand, spanAtHand)", "now.entryOf(state, keyAtHand, 0)",
            "now.entryOf(state, keyAtHand, spanAtHand)", "now.entryOf(state, 1, spanAtHand)"));
    }

    private static void pages(List<Sentence> all) {
        all.add(Sentence.terms("PAGES 0 .. 15: an ENTRY is on the PAGE h modulo 16 (its lowest 4 bits)", c -> {
            KeyStates x = Make.eachKind();
            for (int k = 0; k < 16; k++) {
                x.key(k);
                x.put(0, k);
                c.is("pages with entries after key " + k, k + 1, x.told(5));
            }
            x.key(16);
            x.put(0, 16);
            c.is("there is no 17th", 16, x.told(5));
            c.is("the last page", 15, Make.pageOf(15, 0, 0));
            c.is("then the first again", 0, Make.pageOf(16, 0, 0));
            c.is("h below 0: -31", 1, Make.pageOf(0, -1, 0));
            c.is("h below 0: -961", 15, Make.pageOf(0xffffffffL, 0, 0));
            c.is("h below 0: -496", 0, Make.pageOf(0, -16, 0));
        },
            "& (PAGES - 1)", "& 7",
            "& (PAGES - 1)", "% PAGES & (PAGES - 2)",
            "return ((k * 31 + span) * 31 + state) & (PAGES - 1);",
                "return Math.abs(((k * 31 + span) * 31 + state) % PAGES);"));
        all.add(Sentence.terms("h being (k * 31 + SPAN) * 31 + the STATE's number", c -> {
            c.is("key 1: 961", 1, Make.pageOf(1, 0, 0));
            c.is("key 5: 4805", 5, Make.pageOf(5, 0, 0));
            c.is("span 1: 31", 15, Make.pageOf(0, 1, 0));
            c.is("span 3: 93", 13, Make.pageOf(0, 3, 0));
            c.is("state 7: 7", 7, Make.pageOf(0, 0, 7));
            c.is("all of them: (62 + 3) * 31 + 5 = 2020", 4, Make.pageOf(2, 3, 5));
            c.is("the greatest span", 1, Make.pageOf(0, MOST, 0));
            c.is("the least span", 0, Make.pageOf(0, LEAST, 0));
            c.is("the greatest span and a key", 3, Make.pageOf(2, MOST, 0));
            c.is("the least span and a state", 6, Make.pageOf(0, LEAST, 6));
        },
            "k * 31 + span", "k * 33 + span",
            "k * 31 + span", "k * 31 - span",
            "k * 31 + span", "k * 31",
            "* 31 + state", "* 33 + state",
            "* 31 + state", "* 31 - state",
            "* 31 + state", "* 31"));
        all.add(Sentence.terms("k the KEY's lower 32 bits xor its upper ones (all 32 bits, going round).", c -> {
            c.is("upper bits alone", 1, Make.pageOf(1L << 32, 0, 0));
            c.is("upper and lower ones, the same", 0, Make.pageOf((5L << 32) + 5, 0, 0));
            c.is("upper and lower ones, others", 6, Make.pageOf((5L << 32) + 3, 0, 0));
            c.is("-1: all bits in both", 0, Make.pageOf(-1, 0, 0));
            c.is("-2: one bit differs", 1, Make.pageOf(-2, 0, 0));
            c.is("all lower bits", 15, Make.pageOf(0xffffffffL, 0, 0));
            c.is("all upper bits", 15, Make.pageOf(0xffffffffL << 32, 0, 0));
            c.is("the least", 0, Make.pageOf(Long.MIN_VALUE, 0, 0));
            c.is("the greatest", 0, Make.pageOf(Long.MAX_VALUE, 0, 0));
            c.is("the greatest but for the last bit", 1, Make.pageOf(Long.MAX_VALUE - 1, 0, 0));
        },
            "(int) key ^ (int) (key >>> 32)", "(int) key",
            "(int) key ^ (int) (key >>> 32)", "(int) (key >>> 32)",
            "(int) key ^ (int) (key >>> 32)", "(int) key + (int) (key >>> 32)",
            "(int) key ^ (int) (key >>> 32)", "(int) key | (int) (key >>> 32)",
            "(key >>> 32)", "(key >>> 31)"));
    }

    private static void snapshots(List<Sentence> all) {
        all.add(Sentence.terms("A SNAPSHOT has all PAGES, KINDS and TYPES as they are when it is taken", c -> {
            KeyStates x = Make.states(VALUE, 1);
            Make.putOnAllPages(x, 5);
            x.snapshot();
            Make.putOnAllPages(x, 6);
            x.move(0, LIST, 0);
            x.snapshot();
            x.clearSpan();
            for (int k = 0; k < 16; k++) {
                c.is("page " + k + " then", 5, x.ask(0, 0, k, 0, 0));
                c.is("page " + k + " after it", 6, x.ask(1, 0, k, 0, 0));
            }
            c.is("now there are none", 0, x.told(1));
            x.restore(0);
            c.is("the kind then", VALUE, x.of(0, 1));
            c.is("the type then", 1, x.of(0, 2));
            x.restore(1);
            c.is("the kind after it", LIST, x.of(0, 1));
            c.is("the type after it", 0, x.of(0, 2));
        },
            "kinds[s] = like.kinds[s];", "",
            "types[s] = like.types[s];", "",
            "pages[p].holders++;", "",
            "copy.rows = rows.clone();", "copy.rows = rows;"));
        all.add(Sentence.terms("these PAGES are SHARED with it, as long as it is there", c -> {
            KeyStates x = Make.eachKind();
            c.is("none at first", 0, x.told(3));
            x.snapshot();
            c.is("all, without entries too", 16, x.told(3));
            x.snapshot();
            c.is("with two, each counts once", 16, x.told(3));
            c.is("one goes", 16, x.drop(0));
            c.is("both go", 0, x.drop(1));
            c.is("none then", 0, x.told(3));
            x.put(0, 1);
            c.is("and nothing is copied", 0, x.told(4));
        },
            "pages[p].holders++;", "if (pages[p].countEntries() > 0) { pages[p].holders++; }",
            "pages[p].holders--;", "",
            "pages[p].holders--;", "pages[p].holders = 0;",
            "return holders > 0;", "return holders > 1;"));
        all.add(Sentence.terms("till they change here.", c -> {
            KeyStates x = Make.eachKind();
            x.snapshot();
            x.snapshot();
            for (int p = 0; p < 16; p++) {
                x.key(p);
                x.put(0, 1);
                c.is("shared after page " + p + " has changed", 15 - p, x.told(3));
            }
            c.is("none is shared with either", 0, x.drop(0));
            c.is("nor with the other", 0, x.drop(1));
        },
            "copy.rows = rows.clone();", "copy.rows = rows.clone(); copy.holders = holders;",
            "copy.rows = rows.clone();", "copy.rows = rows.clone(); copy.holders = holders - 1;",
            "now.pages[p] = page;", ""));
        all.add(Sentence.terms("Restoring shares all PAGES with that SNAPSHOT.", c -> {
            KeyStates x = Make.eachKind();
            Make.putOnAllPages(x, 5);
            x.snapshot();
            Make.putOnAllPages(x, 6);
            c.is("none is shared", 0, x.told(3));
            x.restore(0);
            c.is("all are", 16, x.told(3));
            int copied = x.told(4);
            x.key(0);
            x.put(0, 7);
            c.is("so one that changes is copied", 1, x.told(4) - copied);
            c.is("and not shared then", 15, x.told(3));
            c.is("the snapshot keeps its own", 5, x.ask(0, 0, 0, 0, 0));
            x.restore(0);
            c.is("restoring again", 16, x.told(3));
            c.is("with that one alone", 0, x.drop(0));
        },
            "pages[p] = other.pages[p];", "pages[p] = other.pages[p].copied();",
            "pages[p] = other.pages[p];",
                "if (pages[p] != other.pages[p] && pages[p].countEntries() == 0) { pages[p] = other.pages[p]; }"));
    }

    private static void copies(List<Sentence> all) {
        all.add(Sentence.terms("When an ENTRY on a PAGE changes (also when it is given what it has)", c -> {
            KeyStates x = Make.eachKind();
            c.is("a new one", 1, Make.copies(x, () -> x.put(0, 4)));
            c.is("put of what it has", 1, Make.copies(x, () -> x.put(0, 4)));
            c.is("a new list", 1, Make.copies(x, () -> x.add(1, 4)));
            c.is("a number more", 1, Make.copies(x, () -> x.add(1, 4)));
            c.is("a new map", 1, Make.copies(x, () -> x.set(2, 1, 4)));
            c.is("set of what it has", 1, Make.copies(x, () -> x.set(2, 1, 4)));
            c.is("a member more", 1, Make.copies(x, () -> x.set(2, 2, 4)));
            c.is("a member goes", 1, Make.copies(x, () -> Check.bit(x.remove(2, 2))));
            c.is("no such member", 0, Make.copies(x, () -> Check.bit(x.remove(2, 2))));
            c.is("the last member goes", 1, Make.copies(x, () -> Check.bit(x.remove(2, 1))));
            c.is("a new fold", 1, Make.copies(x, () -> x.fold(3, 0)));
            c.is("fold of nothing more", 1, Make.copies(x, () -> x.fold(3, 0)));
            c.is("moved as it is", 1, Make.copies(x, () -> x.move(0, VALUE, 0)));
            c.is("moved", 1, Make.copies(x, () -> x.move(0, LIST, 0)));
            c.is("cleared", 1, Make.copies(x, () -> Check.bit(x.clear(0))));
            c.is("nothing to clear", 0, Make.copies(x, () -> Check.bit(x.clear(0))));
            c.is("nothing to move", 0, Make.copies(x, () -> x.move(0, FOLD, 0)));
            c.is("a span of two pages", 2, Make.copies(x, () -> x.clearSpan()));
            c.is("a span without entries", 0, Make.copies(x, () -> x.clearSpan()));
        },
            "keep(old.withOnly(v));", "if (old.isNone() || old.numbers[0] != v) { keep(old.withOnly(v)); }",
            "keep(old.withNumberAt(at, v));", "if (old.numbers[at] != v) { keep(old.withNumberAt(at, v)); }",
            "if (now.pages[p].countEntriesOf(state) > 0) {",
                "if (now.pages[p].countEntriesOf(state) > 0 && now.kinds[state] != kind) {",
            "if (now.pages[p].countEntriesOf(state) > 0) {", "if (true) {",
            "if (now.pages[p].hasSpan(spanAtHand)) {", "if (true) {"));
        all.add(Sentence.terms("and the PAGE is SHARED with some SNAPSHOT, it is COPIED first", c -> {
            KeyStates x = Make.eachKind();
            x.put(0, 1);
            c.is("shared with none", 0, x.told(4));
            x.snapshot();
            x.snapshot();
            x.put(0, 2);
            c.is("shared with two: once", 1, x.told(4));
            x.snapshot();
            x.drop(0);
            x.drop(1);
            x.put(0, 3);
            c.is("shared with the last alone", 2, x.told(4));
            c.is("which has what it had", 2, x.ask(2, 0, 1, 0, 0));
            x.drop(2);
            x.put(0, 4);
            c.is("that is gone", 2, x.told(4));
            c.is("and this is now", 4, x.value(0));
        },
            "if (page.isShared()) {", "if (true) {",
            "pagesCopied++;", "",
            "pagesCopied++;", "pagesCopied += countSnapshots();",
            "page = page.copied();", "",
            "if (page.isShared()) {", "if (snapshots[0] != null && page.isShared()) {"));
        all.add(Sentence.terms("and not SHARED then.", c -> {
            KeyStates x = Make.eachKind();
            x.snapshot();
            x.put(0, 1);
            c.is("one is not shared", 15, x.told(3));
            x.put(0, 2);
            x.key(17);
            x.put(0, 2);
            c.is("it is not copied again, for no entry on it", 1, x.told(4));
            c.is("the others are shared still", 15, x.told(3));
            x.snapshot();
            c.is("till the next snapshot", 16, x.told(3));
            x.put(0, 3);
            c.is("then it is copied again", 2, x.told(4));
        },
            "copy.rows = rows.clone();", "copy.rows = rows.clone(); copy.holders = holders;",
            "now.pages[p] = page;", ""));
        all.add(Sentence.terms("BAD is -1, NO -3, FULL -4.", c -> {
            KeyStates x = Make.states(VALUE, 0);
            c.is("BAD as answered", -1, x.told(7));
            c.is("NO as answered", -3, x.move(0, MAP, 0));
            for (int n = 0; n < 6; n++) {
                x.snapshot();
            }
            c.is("FULL as answered", -4, x.snapshot());
            c.is("BAD", -1, constant("BAD"));
            c.is("NO", -3, constant("NO"));
            c.is("FULL", -4, constant("FULL"));
        },
            "BAD = -1", "BAD = -2",
            "NO = -3", "NO = -2",
            "FULL = -4", "FULL = -2"));
    }

    /** By its name: a constant that a test names itself stays in it as it was compiled. */
    private static int constant(String name) {
        try {
            return KeyStates.class.getField(name).getInt(null);
        } catch (ReflectiveOperationException e) {
            return 0;
        }
    }
}
