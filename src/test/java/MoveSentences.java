import java.util.ArrayList;
import java.util.List;

/** What the document's terms say of moving a state. */
final class MoveSentences {
    private static final int VALUE = Make.VALUE, LIST = Make.LIST, MAP = Make.MAP, FOLD = Make.FOLD;
    private static final int NO = Make.NO, FULL = Make.FULL;
    private static final String[] KINDS = {"VALUE", "LIST", "MAP", "FOLD"};

    private MoveSentences() {
    }

    static List<Sentence> all() {
        List<Sentence> all = new ArrayList<>();
        all.add(Sentence.terms("TO MOVE a STATE to a KIND and TYPE gives each of its ENTRIES other content",
            MoveSentences::eachEntry,
            "rows[r] = rows[r].movedTo(kind, type);", "if (moved == 0) { rows[r] = rows[r].movedTo(kind, type); }",
            "if (rows[r] != null && rows[r].state == state) { rows[r] = rows[r].movedTo",
                "if (rows[r] != null) { rows[r] = rows[r].movedTo",
            "now.kinds[state] = kind;", "",
            "now.types[state] = type;", ""));
        ofValues(all);
        ofListsAndFolds(all);
        ofMaps(all);
        all.add(Sentence.terms("VALUE, LIST, MAP to the same KIND: as it is.", MoveSentences::asItIs,
            "return to != MAP;", "return to != MAP && to != VALUE;",
            "return to == LIST || to == FOLD;", "return to == FOLD;",
            "return to == MAP || to == LIST;", "return to == LIST;",
            "if (kind == MAP || members.length == 0 && folded == 0) {", "if (members.length == 0 && folded == 0) {"));
        all.add(Sentence.terms("All others are NO", MoveSentences::allOthers,
            "return to != MAP;", "return true;",
            "return to == LIST || to == FOLD;", "return to != MAP;",
            "return to == LIST || to == FOLD;", "return to != VALUE;",
            "return to == MAP || to == LIST;", "return to != VALUE;",
            "return to == MAP || to == LIST;", "return to != FOLD;",
            "return to == VALUE;", "return to == VALUE || to == FOLD;",
            "return to == VALUE;", "return to == VALUE || to == LIST;",
            "return to == VALUE;", "return to == VALUE || to == MAP;",
            "if (!canMove(now.kinds[state], kind) ||",
                "if (!canMove(now.kinds[state], kind) && now.countEntries() > 0 ||"));
        all.add(Sentence.terms("and when some number would not FIT.", MoveSentences::someNumberWouldNotFit,
            "|| !now.allFit(state, kind, type)", "",
            "p = 0; p < PAGES; p++) { if (!pages[p].allFit", "p = 1; p < PAGES; p++) { if (!pages[p].allFit",
            "p < PAGES; p++) { if (!pages[p].allFit", "p < PAGES - 1; p++) { if (!pages[p].allFit",
            "i < numbers.length; i++) { if (!fits(", "i < Math.min(1, numbers.length); i++) { if (!fits(",
            "for (int i = 0; i < numbers.length; i++) { if (!fits(",
                "for (int i = 1; i < numbers.length; i++) { if (!fits(",
            "rows[r].state == state && !rows[r].allFit(", "!rows[r].allFit(",
            "if (!fits(kind, type, numbers[i])) {", "if (!fits(VALUE, type, numbers[i])) {",
            "v >= -1000", "v > -1000",
            "v <= 1000", "v < 1000",
            ": v >= 0;", ": v > 0;"));
        return all;
    }

    private static void eachEntry(Check c) {
        KeyStates x = Make.states(VALUE, 0, VALUE, 0);
        for (int n = 0; n < 40; n++) {
            x.key(n % 20);
            x.span(n / 20);
            x.put(0, n);
            x.put(1, -n);
        }
        c.is("how many", 40, x.move(0, FOLD, 2));
        c.is("the kind", FOLD, x.of(0, 1));
        c.is("the type", 2, x.of(0, 2));
        for (int n = 0; n < 40; n++) {
            x.key(n % 20);
            x.span(n / 20);
            c.is("entry " + n + " is a fold", 1, x.size(0));
            c.is("entry " + n + " has its number", n, x.value(0));
            c.is("entry " + n + " of the other state", -n, x.value(1));
        }
        x.fold(0, 3);
        c.is("the greatest is kept now", 39, x.value(0));
        c.is("the other state's kind", VALUE, x.of(1, 1));
        x.key(0);
        x.span(0);
        c.is("the other state, moved later, was not moved before", 0, x.put(1, 5));
    }

    private static void ofValues(List<Sentence> all) {
        all.add(Sentence.terms("VALUE to LIST: its number", c -> {
            KeyStates x = Make.eachKind();
            x.put(0, -7);
            c.is("one entry", 1, x.move(0, LIST, 1));
            c.is("has its number", -7, x.item(0, 0));
            c.is("and no more", 1, x.size(0));
            for (int n = 2; n <= 10; n++) {
                c.is("room for nine more", n, x.add(0, n));
            }
            c.is("and no tenth", FULL, x.add(0, 0));
        },
            "return to != MAP;", "return to == VALUE || to == FOLD;",
            "numbers.length >= MOST_NUMBERS ||", "numbers.length >= MOST_NUMBERS - 1 ||"));
        all.add(Sentence.terms("VALUE to FOLD: its number, 1 folded", c -> {
            for (int type = 0; type <= 2; type++) {
                KeyStates x = Make.eachKind();
                x.put(0, -7);
                x.put(0, -8);
                c.is("one entry", 1, x.move(0, FOLD, type));
                c.is("its number", -8, x.value(0));
                c.is("1 folded", 1, x.size(0));
                c.is("the next is the second", 2, x.fold(0, -9));
                c.is("folded as the type says", type == 0 ? -17 : type == 1 ? -9 : -8, x.value(0));
            }
        },
            "new long[] {all}, EMPTY, numbers.length)", "new long[] {all}, EMPTY, numbers.length - 1)",
            "return to != MAP;", "return to == VALUE || to == LIST;",
            "long all = numbers[0];", "long all = joined(type, numbers[0], 0);"));
    }

    private static void ofListsAndFolds(List<Sentence> all) {
        all.add(Sentence.terms("LIST to FOLD: its numbers folded", c -> {
            for (int type = 0; type <= 2; type++) {
                KeyStates x = Make.eachKind();
                for (int n = 0; n < 10; n++) {
                    x.add(1, n % 2 == 0 ? -2 * n : 2 * n);
                }
                x.key(2);
                x.add(1, -5);
                c.is("two entries", 2, x.move(1, FOLD, type));
                x.key(1);
                c.is("ten were folded", 10, x.size(1));
                c.is("as the type says", type == 0 ? 10 : type == 1 ? -16 : 18, x.value(1));
                c.is("one each is counted", 2, x.told(6));
                c.is("an eleventh", 11, x.fold(1, 0));
                x.key(2);
                c.is("one was folded", 1, x.size(1));
                c.is("the number of it", -5, x.value(1));
            }
        },
            "EMPTY, numbers.length);", "EMPTY, 1);",
            "all = joined(type, all, numbers[i]);", "all += numbers[i];",
            "for (int i = 1; i < numbers.length; i++) { all", "for (int i = 1; i + 1 < numbers.length; i++) { all",
            "for (int i = 1; i < numbers.length; i++) { all", "for (int i = 0; i < numbers.length; i++) { all",
            "return to == LIST || to == FOLD;", "return to == LIST;",
            "return foldedUp(type);", "return foldedUp(SUM);",
            "return foldedUp(type);", "return foldedUp(LEAST);"));
        all.add(Sentence.terms("FOLD to VALUE: its number", c -> {
            KeyStates x = Make.eachKind();
            x.fold(3, 40);
            x.fold(3, 2);
            c.is("one entry", 1, x.move(3, VALUE, 1));
            c.is("its number", 42, x.value(3));
            c.is("it has one", 1, x.size(3));
            c.is("and is there", 0, x.put(3, 5));
            c.is("nothing is left of what was folded", 1, x.move(3, FOLD, 0));
            c.is("but for this one", 1, x.size(3));
        },
            "return to == VALUE;", "return false;",
            "? entry.folded : entry.numbers.length", "? entry.folded : entry.folded"));
    }

    private static void ofMaps(List<Sentence> all) {
        all.add(Sentence.terms("MAP to LIST: its numbers by rising MEMBERS", c -> {
            KeyStates x = Make.eachKind();
            long[] members = {Long.MAX_VALUE, 3, -1, 0, Long.MIN_VALUE, 1L << 32, -5, 7, 2, 1};
            long[] rising = members.clone();
            java.util.Arrays.sort(rising);
            for (long m : members) {
                x.set(2, m, m / 2);
            }
            c.is("one entry", 1, x.move(2, LIST, 0));
            c.is("ten numbers", 10, x.size(2));
            for (int n = 0; n < 10; n++) {
                c.is("number " + n, rising[n] / 2, x.item(2, n));
            }
            c.is("it is full", FULL, x.add(2, 1));
            c.badArgument("it has no members", () -> x.member(2, 0));
            c.is("and can be folded", 1, x.move(2, FOLD, 0));
            c.is("all ten", 10, x.size(2));
        },
            "return to == MAP || to == LIST;", "return to == MAP;",
            "row[at] < x) {", "row[at] > x) {"));
    }

    private static void asItIs(Check c) {
        KeyStates x = Make.eachKind();
        x.put(0, 9);
        x.add(1, 9);
        x.add(1, 8);
        x.set(2, 6, 9);
        x.set(2, 5, 8);
        for (int type = 0; type <= 2; type++) {
            for (int kind = VALUE; kind <= MAP; kind++) {
                c.is(KINDS[kind] + " to itself, type " + type, 1, x.move(kind, kind, type));
                c.is("its kind", kind, x.of(kind, 1));
                c.is("its type", type, x.of(kind, 2));
            }
            c.is("the value", 9, x.value(0));
            c.is("the first of the list", 9, x.item(1, 0));
            c.is("the second of the list", 8, x.item(1, 1));
            c.is("the first member", 5, x.member(2, 0));
            c.is("its number", 8, x.get(2, 5));
            c.is("the second member's number", 9, x.get(2, 6));
            c.is("five numbers", 5, x.told(6));
        }
        KeyStates y = Make.eachKind();
        c.is("without entries", 0, y.move(0, VALUE, 0) + y.move(1, LIST, 2) + y.move(2, MAP, 1));
    }

    private static void allOthers(Check c) {
        int[][] others = {{VALUE, MAP}, {LIST, VALUE}, {LIST, MAP}, {MAP, VALUE}, {MAP, FOLD}, {FOLD, LIST},
            {FOLD, MAP}, {FOLD, FOLD}};
        for (int[] move : others) {
            for (int type = 0; type <= 2; type++) {
                String what = KINDS[move[0]] + " to " + KINDS[move[1]] + ", type " + type;
                KeyStates x = Make.states(move[0], type);
                c.is(what + ", without entries", NO, x.move(0, move[1], type));
                Make.write(x, 0, 1);
                c.is(what, NO, x.move(0, move[1], type));
                c.is("its kind", move[0], x.of(0, 1));
            }
        }
    }

    private static void someNumberWouldNotFit(Check c) {
        for (int kind = VALUE; kind <= MAP; kind++) {
            long[] fitsOne = {-1000, 0, 1000}, notOne = {-1001, 1001, Long.MIN_VALUE, Long.MAX_VALUE};
            long[] fitsTwo = {0, 1001, Long.MAX_VALUE}, notTwo = {-1, -1000, Long.MIN_VALUE};
            int to = kind == MAP ? LIST : kind;
            moves(c, kind, to, 1, 1, fitsOne);
            moves(c, kind, to, 1, NO, notOne);
            moves(c, kind, kind, 2, 1, fitsTwo);
            moves(c, kind, kind, 2, NO, notTwo);
        }
        moves(c, VALUE, LIST, 1, NO, 1001);
        moves(c, FOLD, VALUE, 1, NO, 1001, -1001);
        moves(c, FOLD, VALUE, 1, 1, 1000, -1000);
        moves(c, VALUE, FOLD, 1, 1, 1001, -1001);
        moves(c, LIST, FOLD, 2, 1, -1, Long.MIN_VALUE);
        KeyStates x = Make.eachKind();
        for (int n = 0; n < 9; n++) {
            x.add(1, n);
            x.set(2, n, n);
        }
        x.add(1, -1);
        x.set(2, 9, -1);
        c.is("the last of ten does not fit", NO, x.move(1, LIST, 2));
        c.is("the last member's does not fit", NO, x.move(2, MAP, 2));
        c.is("nor in a list", NO, x.move(2, LIST, 2));
        x.fold(3, 600);
        x.fold(3, 600);
        c.is("the sum does not fit", NO, x.move(3, VALUE, 1));
        for (int p = 0; p < 16; p++) {
            KeyStates z = Make.states(VALUE, 0);
            Make.putOnAllPages(z, 5);
            z.key(p);
            z.put(0, -1);
            c.is("the one on page " + p + " does not fit", NO, z.move(0, VALUE, 2));
        }
        KeyStates y = Make.states(VALUE, 0, VALUE, 0);
        Make.fill(y, 148);
        y.key(-5);
        y.put(0, -1);
        y.put(1, -9);
        c.is("one of 149 entries does not fit", NO, y.move(0, LIST, 2));
        c.is("the kind stays", VALUE, y.of(0, 1));
        c.is("the type stays", 0, y.of(0, 2));
        y.clear(0);
        c.is("without it they do, whatever another state has", 148, y.move(0, LIST, 2));
    }

    /** Each number alone, in a state of this kind and type 0, is moved. */
    private static void moves(Check c, int from, int to, int type, int due, long... numbers) {
        for (long v : numbers) {
            KeyStates x = Make.states(from, 0);
            Make.write(x, 0, v);
            c.is(v + " from " + KINDS[from] + " to " + KINDS[to] + " of type " + type, due, x.move(0, to, type));
        }
    }
}
