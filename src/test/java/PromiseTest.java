/** One method a promise of the document, and one a paragraph of its terms. */
public final class PromiseTest {
    private static final int VALUE = 0, LIST = 1, MAP = 2, FOLD = 3;
    private static final int BAD = -1, NO = -3, FULL = -4;
    private static final Check check = new Check();

    public static void main(String[] args) {
        promise1NewObject();
        promise2State();
        promise3Key();
        promise4Leave();
        promise5Span();
        promise6Put();
        promise7Value();
        promise8Add();
        promise9Item();
        promise10Set();
        promise11Get();
        promise12Member();
        promise13Remove();
        promise14Fold();
        promise15Size();
        promise16Clear();
        promise17ClearSpan();
        promise18Keys();
        promise19KeyAt();
        promise20Snapshot();
        promise21Drop();
        promise22Ask();
        promise23Entries();
        promise24Restore();
        promise25Move();
        promise26Of();
        promise27Told();
        termsFit();
        termsPages();
        termsShared();
        termsCopied();
        termsMoving();
        termsExceptionsInOrder();
        termsRefusedChangesNothing();
        check.end();
    }

    private static KeyStates withStates(int... kindsAndTypes) {
        KeyStates x = new KeyStates();
        for (int i = 0; i + 1 < kindsAndTypes.length; i += 2) {
            x.state(100 + i / 2, kindsAndTypes[i], kindsAndTypes[i + 1]);
        }
        x.key(1);
        return x;
    }

    /** 150 entries of state 0, a VALUE: keys 0 to 149 in span 0. */
    private static void fill(KeyStates x) {
        for (int k = 0; k < 150; k++) {
            x.key(k);
            x.put(0, k);
        }
    }

    private static void promise1NewObject() {
        KeyStates x = new KeyStates();
        for (int what = 0; what <= 6; what++) {
            int w = what;
            check.due("1 told(" + w + ")", 0, () -> x.told(w));
        }
        check.outOfBounds("1 of(0, 0)", () -> x.of(0, 0));
        check.outOfBounds("1 size(0)", () -> x.size(0));
        check.due("1 leave()", 0, () -> Check.bit(x.leave()));
        check.due("1 span(4)", 0, () -> x.span(4));
        check.due("1 clearSpan()", 0, () -> x.clearSpan());
        check.outOfBounds("1 drop(0)", () -> x.drop(0));
        KeyStates other = new KeyStates();
        other.state(1, 0, 0);
        check.due("1 objects stand alone", 0, () -> x.told(0));
    }

    private static void promise2State() {
        KeyStates x = new KeyStates();
        check.due("2 first", 0, () -> x.state(7, VALUE, 0));
        check.due("2 second", 1, () -> x.state(-7, FOLD, 2));
        check.due("2 again", 0, () -> x.state(7, VALUE, 0));
        check.due("2 another kind", NO, () -> x.state(7, LIST, 0));
        check.due("2 another type", NO, () -> x.state(7, VALUE, 1));
        check.due("2 kind 4", BAD, () -> x.state(8, 4, 0));
        check.due("2 kind -1", BAD, () -> x.state(8, -1, 0));
        check.due("2 type 3", BAD, () -> x.state(8, 0, 3));
        check.due("2 type -1", BAD, () -> x.state(8, 0, -1));
        check.due("2 BAD before NO", BAD, () -> x.state(7, 4, 0));
        check.due("2 least kind and type", BAD, () -> x.state(7, Integer.MIN_VALUE, Integer.MIN_VALUE));
        check.due("2 refused are not told", 2, () -> x.told(0));
        for (int n = 2; n < 8; n++) {
            int number = n;
            check.due("2 state " + n, n, () -> x.state(1000 + number, MAP, 1));
        }
        check.due("2 a ninth", FULL, () -> x.state(2000, MAP, 1));
        check.due("2 BAD before FULL", BAD, () -> x.state(2000, MAP, 3));
        check.due("2 NO before FULL", NO, () -> x.state(1007, MAP, 0));
        check.due("2 again when full", 7, () -> x.state(1007, MAP, 1));
        check.due("2 eight", 8, () -> x.told(0));
        KeyStates y = withStates(VALUE, 0);
        y.move(0, LIST, 1);
        check.due("2 as moved", 0, () -> y.state(100, LIST, 1));
        check.due("2 as before it was moved", NO, () -> y.state(100, VALUE, 0));
    }

    private static void promise3Key() {
        KeyStates x = withStates(VALUE, 0);
        x.key(Long.MIN_VALUE);
        x.put(0, 5);
        x.key(Long.MAX_VALUE);
        check.due("3 another key has no entry", 0, () -> x.size(0));
        x.put(0, 6);
        x.key(Long.MIN_VALUE);
        check.due("3 the first key's", 5, () -> x.value(0));
        x.key(Long.MIN_VALUE);
        check.due("3 the same key again", 5, () -> x.value(0));
        x.key(1L << 32);
        check.due("3 the upper bits count", 0, () -> x.size(0));
    }

    private static void promise4Leave() {
        KeyStates x = withStates(VALUE, 0);
        x.key(0);
        x.put(0, 1);
        check.due("4 one was", 1, () -> Check.bit(x.leave()));
        check.due("4 none was", 0, () -> Check.bit(x.leave()));
        check.badState("4 value", () -> x.value(0));
        check.due("4 the entry stays", 1, () -> x.told(1));
        x.key(0);
        check.due("4 and is there again", 1, () -> x.value(0));
        check.due("4 key 0 is a key", 1, () -> Check.bit(x.leave()));
    }

    private static void promise5Span() {
        KeyStates x = withStates(VALUE, 0);
        x.put(0, 1);
        check.due("5 at first", 0, () -> x.span(Integer.MIN_VALUE));
        check.due("5 none in this span", 0, () -> x.size(0));
        x.put(0, 2);
        check.due("5 then", Integer.MIN_VALUE, () -> x.span(Integer.MAX_VALUE));
        check.due("5 then too", Integer.MAX_VALUE, () -> x.span(0));
        check.due("5 as it was", 1, () -> x.value(0));
        x.leave();
        check.due("5 without a key", 0, () -> x.span(3));
        x.key(1);
        check.due("5 a key changes no span", 3, () -> x.span(3));
    }

    private static void promise6Put() {
        KeyStates x = withStates(VALUE, 0, LIST, 0);
        check.due("6 new", 1, () -> x.put(0, Long.MIN_VALUE));
        check.due("6 again", 0, () -> x.put(0, Long.MAX_VALUE));
        check.due("6 it is the last", Long.MAX_VALUE, () -> x.value(0));
        check.outOfBounds("6 no such state", () -> x.put(2, 0));
        check.outOfBounds("6 state -1", () -> x.put(-1, 0));
        check.badArgument("6 a list", () -> x.put(1, 0));
        x.clear(0);
        check.due("6 new again", 1, () -> x.put(0, 1));
        KeyStates y = withStates(VALUE, 0);
        fill(y);
        y.key(150);
        check.due("6 the 151st", FULL, () -> y.put(0, 1));
        check.due("6 150 stay", 150, () -> y.told(1));
        y.key(149);
        check.due("6 one that is there", 0, () -> y.put(0, -1));
        y.clear(0);
        y.key(150);
        check.due("6 room again", 1, () -> y.put(0, 1));
    }

    private static void promise7Value() {
        KeyStates x = withStates(VALUE, 0, FOLD, 0, LIST, 0, MAP, 0);
        check.noElement("7 no entry", () -> x.value(0));
        check.noElement("7 no fold", () -> x.value(1));
        x.put(0, 3);
        x.fold(1, 4);
        x.fold(1, 5);
        check.due("7 value", 3, () -> x.value(0));
        check.due("7 fold", 9, () -> x.value(1));
        check.badArgument("7 list", () -> x.value(2));
        check.badArgument("7 map", () -> x.value(3));
        check.outOfBounds("7 no such state", () -> x.value(4));
        x.clear(0);
        check.noElement("7 cleared", () -> x.value(0));
    }

    private static void promise8Add() {
        KeyStates x = withStates(LIST, 0, VALUE, 0);
        for (int n = 1; n <= 10; n++) {
            int count = n;
            check.due("8 number " + n, n, () -> x.add(0, 7 * count));
        }
        check.due("8 an eleventh", FULL, () -> x.add(0, 1));
        check.due("8 ten stay", 10, () -> x.size(0));
        check.due("8 the first", 7, () -> x.item(0, 0));
        check.due("8 the last", 70, () -> x.item(0, 9));
        check.badArgument("8 a value", () -> x.add(1, 0));
        check.outOfBounds("8 no such state", () -> x.add(2, 0));
        KeyStates y = withStates(VALUE, 0, LIST, 0);
        fill(y);
        check.due("8 the 151st entry", FULL, () -> y.add(1, 1));
        y.clear(0);
        check.due("8 the 150th entry", 1, () -> y.add(1, 1));
        check.due("8 more numbers of it", 2, () -> y.add(1, 1));
    }

    private static void promise9Item() {
        KeyStates x = withStates(LIST, 0, MAP, 0, VALUE, 0, FOLD, 0);
        check.outOfBounds("9 none yet", () -> x.item(0, 0));
        check.outOfBounds("9 no map yet", () -> x.item(1, 0));
        x.add(0, 9);
        x.add(0, 9);
        x.add(0, 3);
        check.due("9 numbers may be there twice", 9, () -> x.item(0, 1));
        check.due("9 in a row", 3, () -> x.item(0, 2));
        check.outOfBounds("9 past the end", () -> x.item(0, 3));
        check.outOfBounds("9 -1", () -> x.item(0, -1));
        check.outOfBounds("9 the least", () -> x.item(0, Integer.MIN_VALUE));
        check.outOfBounds("9 the greatest", () -> x.item(0, Integer.MAX_VALUE));
        x.set(1, 5, 50);
        x.set(1, Long.MIN_VALUE, 1);
        x.set(1, Long.MAX_VALUE, 99);
        check.due("9 least member's", 1, () -> x.item(1, 0));
        check.due("9 middle member's", 50, () -> x.item(1, 1));
        check.due("9 greatest member's", 99, () -> x.item(1, 2));
        check.outOfBounds("9 no such member", () -> x.item(1, 3));
        check.badArgument("9 value", () -> x.item(2, 0));
        check.badArgument("9 fold", () -> x.item(3, 0));
        check.outOfBounds("9 no such state", () -> x.item(4, 0));
    }

    private static void promise10Set() {
        KeyStates x = withStates(MAP, 0, VALUE, 0);
        for (int m = 10; m >= 1; m--) {
            int member = m;
            check.due("10 member " + m, 1, () -> x.set(0, member, member * 100));
        }
        check.due("10 an eleventh", FULL, () -> x.set(0, 11, 0));
        check.due("10 one that is there", 0, () -> x.set(0, 4, -4));
        check.due("10 its number", -4, () -> x.get(0, 4));
        check.due("10 the others'", 500, () -> x.get(0, 5));
        check.due("10 ten", 10, () -> x.size(0));
        check.badArgument("10 a value", () -> x.set(1, 0, 0));
        check.outOfBounds("10 no such state", () -> x.set(2, 0, 0));
        KeyStates y = withStates(VALUE, 0, MAP, 0);
        fill(y);
        check.due("10 the 151st entry", FULL, () -> y.set(1, 1, 1));
        y.clear(0);
        check.due("10 the 150th entry", 1, () -> y.set(1, 1, 1));
        check.due("10 more members of it", 1, () -> y.set(1, 2, 1));
    }

    private static void promise11Get() {
        KeyStates x = withStates(MAP, 0, LIST, 0);
        check.noElement("11 no entry", () -> x.get(0, 0));
        x.set(0, 3, 30);
        x.set(0, -3, 31);
        check.due("11 a member's", 30, () -> x.get(0, 3));
        check.due("11 another's", 31, () -> x.get(0, -3));
        check.noElement("11 below all", () -> x.get(0, -4));
        check.noElement("11 between", () -> x.get(0, 0));
        check.noElement("11 above all", () -> x.get(0, 4));
        check.badArgument("11 list", () -> x.get(1, 0));
        check.outOfBounds("11 no such state", () -> x.get(2, 0));
    }

    private static void promise12Member() {
        KeyStates x = withStates(MAP, 0, LIST, 0);
        check.outOfBounds("12 none yet", () -> x.member(0, 0));
        x.set(0, 9, 1);
        x.set(0, -9, 2);
        x.set(0, 0, 3);
        check.due("12 least", -9, () -> x.member(0, 0));
        check.due("12 middle", 0, () -> x.member(0, 1));
        check.due("12 greatest", 9, () -> x.member(0, 2));
        check.outOfBounds("12 past the end", () -> x.member(0, 3));
        check.outOfBounds("12 -1", () -> x.member(0, -1));
        check.badArgument("12 list", () -> x.member(1, 0));
        check.outOfBounds("12 no such state", () -> x.member(2, 0));
    }

    private static void promise13Remove() {
        KeyStates x = withStates(MAP, 0, LIST, 0);
        check.due("13 no entry", 0, () -> Check.bit(x.remove(0, 1)));
        x.set(0, 1, 10);
        x.set(0, 2, 20);
        x.set(0, 3, 30);
        check.due("13 not there", 0, () -> Check.bit(x.remove(0, 4)));
        check.due("13 there", 1, () -> Check.bit(x.remove(0, 2)));
        check.due("13 no more", 0, () -> Check.bit(x.remove(0, 2)));
        check.due("13 those before stay", 10, () -> x.item(0, 0));
        check.due("13 those behind stay", 30, () -> x.item(0, 1));
        check.due("13 members too", 3, () -> x.member(0, 1));
        check.due("13 first", 1, () -> Check.bit(x.remove(0, 1)));
        check.due("13 last", 1, () -> Check.bit(x.remove(0, 3)));
        check.due("13 without members no entry", 0, () -> x.told(1));
        check.due("13 nor a key", 0, () -> x.keys(0));
        check.badArgument("13 list", () -> Check.bit(x.remove(1, 0)));
        check.outOfBounds("13 no such state", () -> Check.bit(x.remove(2, 0)));
    }

    private static void promise14Fold() {
        KeyStates x = withStates(FOLD, 0, FOLD, 1, FOLD, 2, VALUE, 0);
        long[] numbers = {5, -2, 9, Long.MAX_VALUE, Long.MIN_VALUE, 3};
        for (int n = 0; n < numbers.length; n++) {
            long v = numbers[n];
            for (int s = 0; s < 3; s++) {
                int state = s;
                check.due("14 fold(" + s + ", " + v + ")", n + 1, () -> x.fold(state, v));
            }
        }
        check.due("14 sum", 5 - 2 + 9 - 1 + 3, () -> x.value(0));
        check.due("14 least", Long.MIN_VALUE, () -> x.value(1));
        check.due("14 greatest", Long.MAX_VALUE, () -> x.value(2));
        x.key(2);
        x.fold(0, 0);
        x.fold(1, 8);
        x.fold(2, -8);
        check.due("14 the first is the sum", 0, () -> x.value(0));
        check.due("14 the first is the least", 8, () -> x.value(1));
        check.due("14 the first is the greatest", -8, () -> x.value(2));
        for (int n = 2; n <= 12; n++) {
            x.fold(0, 1);
        }
        check.due("14 more than ten", 12, () -> x.size(0));
        check.badArgument("14 value", () -> x.fold(3, 0));
        check.outOfBounds("14 no such state", () -> x.fold(4, 0));
        KeyStates y = withStates(VALUE, 0, FOLD, 0);
        fill(y);
        check.due("14 the 151st entry", FULL, () -> y.fold(1, 1));
        y.clear(0);
        check.due("14 the 150th entry", 1, () -> y.fold(1, 1));
        check.due("14 more folded", 2, () -> y.fold(1, 1));
    }

    private static void promise15Size() {
        KeyStates x = withStates(VALUE, 0, LIST, 0, MAP, 0, FOLD, 0);
        for (int s = 0; s < 4; s++) {
            int state = s;
            check.due("15 none of " + s, 0, () -> x.size(state));
        }
        x.put(0, 0);
        x.put(0, 0);
        x.add(1, 0);
        x.add(1, 0);
        x.set(2, 1, 0);
        x.set(2, 1, 0);
        x.set(2, 2, 0);
        x.fold(3, 0);
        x.fold(3, 0);
        x.fold(3, 0);
        check.due("15 value", 1, () -> x.size(0));
        check.due("15 list", 2, () -> x.size(1));
        check.due("15 map", 2, () -> x.size(2));
        check.due("15 fold", 3, () -> x.size(3));
        check.outOfBounds("15 no such state", () -> x.size(4));
        x.leave();
        check.badState("15 no key", () -> x.size(0));
        check.outOfBounds("15 the state first", () -> x.size(-1));
    }

    private static void promise16Clear() {
        KeyStates x = withStates(VALUE, 0, LIST, 0, MAP, 0, FOLD, 0);
        x.put(0, 1);
        x.add(1, 1);
        x.add(1, 2);
        x.set(2, 1, 1);
        x.fold(3, 1);
        x.fold(3, 1);
        for (int s = 0; s < 4; s++) {
            int state = s;
            check.due("16 there was " + s, 1, () -> Check.bit(x.clear(state)));
            check.due("16 no more " + s, 0, () -> Check.bit(x.clear(state)));
            check.due("16 nothing is left of " + s, 0, () -> x.size(state));
            check.due("16 one less " + s, 3 - s, () -> x.told(1));
        }
        check.due("16 a fold begins anew", 1, () -> x.fold(3, 7));
        check.due("16 with its number", 7, () -> x.value(3));
        check.outOfBounds("16 no such state", () -> Check.bit(x.clear(4)));
        x.leave();
        check.badState("16 no key", () -> Check.bit(x.clear(0)));
    }

    private static void promise17ClearSpan() {
        KeyStates x = withStates(VALUE, 0, LIST, 0);
        for (int k = 0; k < 20; k++) {
            x.key(k);
            x.span(0);
            x.put(0, k);
            x.span(-5);
            x.put(0, k);
            x.add(1, k);
        }
        x.leave();
        check.due("17 all keys and states", 40, () -> x.clearSpan());
        check.due("17 none any more", 0, () -> x.clearSpan());
        check.due("17 other spans stay", 20, () -> x.told(1));
        x.span(0);
        check.due("17 these too", 20, () -> x.clearSpan());
        check.due("17 none is left", 0, () -> x.told(1));
        check.due("17 states stay", 2, () -> x.told(0));
    }

    private static void promise18Keys() {
        KeyStates x = withStates(VALUE, 0, LIST, 0);
        check.due("18 none", 0, () -> x.keys(0));
        x.put(0, 1);
        x.put(0, 2);
        x.add(1, 1);
        x.key(2);
        x.put(0, 1);
        x.span(1);
        x.put(0, 1);
        x.leave();
        check.due("18 span 1", 1, () -> x.keys(0));
        check.due("18 span 1, the other state", 0, () -> x.keys(1));
        x.span(0);
        check.due("18 span 0", 2, () -> x.keys(0));
        check.due("18 span 0, the other state", 1, () -> x.keys(1));
        check.outOfBounds("18 no such state", () -> x.keys(2));
        check.outOfBounds("18 state -1", () -> x.keys(-1));
        KeyStates y = withStates(VALUE, 0);
        fill(y);
        check.due("18 150", 150, () -> y.keys(0));
    }

    private static void promise19KeyAt() {
        KeyStates x = withStates(VALUE, 0, LIST, 0);
        long[] keys = {3, Long.MAX_VALUE, -3, Long.MIN_VALUE, 0, 1L << 40};
        for (long key : keys) {
            x.key(key);
            x.put(0, 1);
        }
        x.key(77);
        x.add(1, 1);
        x.span(1);
        x.put(0, 1);
        x.span(0);
        x.leave();
        java.util.Arrays.sort(keys);
        for (int n = 0; n < keys.length; n++) {
            int i = n;
            check.due("19 key " + n, keys[n], () -> x.keyAt(0, i));
        }
        check.outOfBounds("19 past the end", () -> x.keyAt(0, 6));
        check.outOfBounds("19 -1", () -> x.keyAt(0, -1));
        check.outOfBounds("19 the greatest", () -> x.keyAt(0, Integer.MAX_VALUE));
        check.outOfBounds("19 no such state", () -> x.keyAt(2, 0));
        check.due("19 the other state's", 77, () -> x.keyAt(1, 0));
        check.outOfBounds("19 what was found before is not found again", () -> x.keyAt(1, 1));
        KeyStates y = withStates(VALUE, 0);
        fill(y);
        check.due("19 the 150th", 149, () -> y.keyAt(0, 149));
        check.outOfBounds("19 no 151st", () -> y.keyAt(0, 150));
    }

    private static void promise20Snapshot() {
        KeyStates x = withStates(VALUE, 0);
        for (int n = 0; n < 6; n++) {
            check.due("20 snapshot " + n, n, () -> x.snapshot());
        }
        check.due("20 a seventh", FULL, () -> x.snapshot());
        x.drop(5);
        check.due("20 numbers are not used again", 6, () -> x.snapshot());
        x.drop(0);
        x.drop(2);
        check.due("20 in the order they are taken", 7, () -> x.snapshot());
        check.due("20 also then", 8, () -> x.snapshot());
        check.due("20 full again", FULL, () -> x.snapshot());
        check.due("20 six", 6, () -> x.told(2));
        x.put(0, 4);
        check.noElement("20 what comes later is not in it", () -> x.ask(8, 0, 1, 0, 0));
    }

    private static void promise21Drop() {
        KeyStates x = withStates(VALUE, 0);
        x.put(0, 1);
        x.snapshot();
        x.put(0, 2);
        x.snapshot();
        x.key(2);
        x.put(0, 3);
        check.due("21 shared with the second alone", 15, () -> x.drop(0));
        check.due("21 shared with none", 0, () -> x.drop(1));
        check.outOfBounds("21 gone", () -> x.drop(1));
        check.outOfBounds("21 never taken", () -> x.drop(2));
        check.outOfBounds("21 now is no snapshot", () -> x.drop(-1));
        check.outOfBounds("21 the least", () -> x.drop(Integer.MIN_VALUE));
        check.due("21 what is now stays", 2, () -> x.told(1));
        check.outOfBounds("21 it can't be asked", () -> x.ask(0, 0, 1, 0, 0));
        check.outOfBounds("21 nor restored", () -> x.restore(0));
    }

    private static void promise22Ask() {
        KeyStates x = withStates(VALUE, 0, LIST, 0, MAP, 0, FOLD, 2);
        x.span(3);
        x.put(0, 10);
        x.add(1, 20);
        x.add(1, 19);
        x.set(2, 5, 50);
        x.set(2, 4, 40);
        x.fold(3, 7);
        x.fold(3, 6);
        x.snapshot();
        x.put(0, 11);
        x.add(1, 18);
        x.remove(2, 4);
        x.fold(3, 8);
        x.leave();
        x.span(0);
        check.due("22 value then", 10, () -> x.ask(0, 0, 1, 3, 0));
        check.due("22 value now", 11, () -> x.ask(-1, 0, 1, 3, 0));
        check.due("22 list then", 19, () -> x.ask(0, 1, 1, 3, 1));
        check.due("22 list now", 18, () -> x.ask(-1, 1, 1, 3, 2));
        check.due("22 map then", 40, () -> x.ask(0, 2, 1, 3, 0));
        check.due("22 map then, the next", 50, () -> x.ask(0, 2, 1, 3, 1));
        check.due("22 map now", 50, () -> x.ask(-1, 2, 1, 3, 0));
        check.due("22 fold then", 7, () -> x.ask(0, 3, 1, 3, 0));
        check.due("22 fold now", 8, () -> x.ask(-1, 3, 1, 3, 0));
        check.noElement("22 value has one", () -> x.ask(0, 0, 1, 3, 1));
        check.noElement("22 fold has one", () -> x.ask(-1, 3, 1, 3, 1));
        check.noElement("22 list had two", () -> x.ask(0, 1, 1, 3, 2));
        check.noElement("22 map has one", () -> x.ask(-1, 2, 1, 3, 1));
        check.noElement("22 number -1", () -> x.ask(-1, 0, 1, 3, -1));
        check.noElement("22 another key", () -> x.ask(-1, 0, 2, 3, 0));
        check.noElement("22 another span", () -> x.ask(-1, 0, 1, 0, 0));
        check.outOfBounds("22 no such snapshot", () -> x.ask(1, 0, 1, 3, 0));
        check.outOfBounds("22 snapshot -2", () -> x.ask(-2, 0, 1, 3, 0));
        check.outOfBounds("22 no such state", () -> x.ask(0, 4, 1, 3, 0));
        check.outOfBounds("22 state -1", () -> x.ask(-1, -1, 1, 3, 0));
        x.state(9, VALUE, 0);
        check.noElement("22 a state told later", () -> x.ask(0, 4, 1, 3, 0));
        x.move(0, LIST, 0);
        check.due("22 then, of a moved state", 10, () -> x.ask(0, 0, 1, 3, 0));
    }

    private static void promise23Entries() {
        KeyStates x = withStates(VALUE, 0, LIST, 0);
        x.put(0, 1);
        x.span(1);
        x.put(0, 1);
        x.key(2);
        x.put(0, 1);
        x.add(1, 1);
        x.add(1, 1);
        x.snapshot();
        x.clear(0);
        x.key(3);
        x.add(1, 1);
        x.leave();
        check.due("23 then", 3, () -> x.entries(0, 0));
        check.due("23 now", 2, () -> x.entries(-1, 0));
        check.due("23 the other state then", 1, () -> x.entries(0, 1));
        check.due("23 the other state now", 2, () -> x.entries(-1, 1));
        check.outOfBounds("23 no such state", () -> x.entries(0, 2));
        check.outOfBounds("23 no such state now", () -> x.entries(-1, -1));
        check.outOfBounds("23 no such snapshot", () -> x.entries(1, 0));
        check.outOfBounds("23 snapshot -2", () -> x.entries(-2, 0));
        x.state(9, VALUE, 0);
        check.due("23 a state told later", 0, () -> x.entries(0, 2));
    }

    private static void promise24Restore() {
        KeyStates x = withStates(VALUE, 1, LIST, 0);
        x.put(0, 1);
        x.add(1, 2);
        x.snapshot();
        x.put(0, 5);
        x.add(1, 6);
        x.state(9, VALUE, 0);
        x.put(2, 4);
        x.move(0, FOLD, 0);
        x.move(2, LIST, 2);
        x.snapshot();
        x.key(8);
        x.span(4);
        int copied = x.told(4);
        check.due("24 how many", 2, () -> x.restore(0));
        check.due("24 the key stays", 1, () -> Check.bit(x.leave()));
        check.due("24 the span stays", 4, () -> x.span(0));
        check.due("24 the snapshots stay", 2, () -> x.told(2));
        check.due("24 the states stay", 3, () -> x.told(0));
        check.due("24 nothing is copied", copied, () -> x.told(4));
        check.due("24 the kind", VALUE, () -> x.of(0, 1));
        check.due("24 the type", 1, () -> x.of(0, 2));
        check.due("24 the kind of one told later stays", LIST, () -> x.of(2, 1));
        check.due("24 its type too", 2, () -> x.of(2, 2));
        check.due("24 it has no entries", 0, () -> x.entries(-1, 2));
        x.key(1);
        check.due("24 the value", 1, () -> x.value(0));
        check.due("24 the list", 1, () -> x.size(1));
        x.put(0, 3);
        check.due("24 the snapshot is not changed", 1, () -> x.ask(0, 0, 1, 0, 0));
        check.due("24 again", 2, () -> x.restore(0));
        check.due("24 the value again", 1, () -> x.value(0));
        check.due("24 the later one", 3, () -> x.restore(1));
        check.due("24 its kind", FOLD, () -> x.of(0, 1));
        check.due("24 its value", 5, () -> x.value(0));
        check.outOfBounds("24 no such snapshot", () -> x.restore(2));
        check.outOfBounds("24 now is no snapshot", () -> x.restore(-1));
    }

    private static void promise25Move() {
        KeyStates x = withStates(VALUE, 0, VALUE, 0);
        x.put(0, 1);
        x.put(1, 1);
        x.key(2);
        x.put(0, 2);
        x.span(7);
        x.put(0, 3);
        x.leave();
        check.due("25 kind 4", BAD, () -> x.move(0, 4, 0));
        check.due("25 kind -1", BAD, () -> x.move(0, -1, 0));
        check.due("25 type 3", BAD, () -> x.move(0, 0, 3));
        check.due("25 type -1", BAD, () -> x.move(0, 0, -1));
        check.due("25 BAD before NO", BAD, () -> x.move(0, MAP, 3));
        check.due("25 NO", NO, () -> x.move(0, MAP, 0));
        check.due("25 of all keys and spans", 3, () -> x.move(0, LIST, 2));
        check.due("25 the kind", LIST, () -> x.of(0, 1));
        check.due("25 the type", 2, () -> x.of(0, 2));
        check.due("25 the other state stays", VALUE, () -> x.of(1, 1));
        check.outOfBounds("25 no such state", () -> x.move(2, 0, 0));
        check.outOfBounds("25 the state first", () -> x.move(-1, 9, 9));
        KeyStates y = withStates(MAP, 0, FOLD, 0);
        check.due("25 without entries", 0, () -> y.move(0, LIST, 1));
        check.due("25 NO without entries too", NO, () -> y.move(1, FOLD, 0));
    }

    private static void promise26Of() {
        KeyStates x = new KeyStates();
        x.state(Integer.MIN_VALUE, FOLD, 1);
        x.state(5, MAP, 2);
        check.due("26 name", Integer.MIN_VALUE, () -> x.of(0, 0));
        check.due("26 kind", FOLD, () -> x.of(0, 1));
        check.due("26 type", 1, () -> x.of(0, 2));
        check.due("26 another's name", 5, () -> x.of(1, 0));
        check.due("26 another's kind", MAP, () -> x.of(1, 1));
        check.due("26 another's type", 2, () -> x.of(1, 2));
        check.outOfBounds("26 what 3", () -> x.of(0, 3));
        check.outOfBounds("26 what -1", () -> x.of(0, -1));
        check.outOfBounds("26 no such state", () -> x.of(2, 0));
        check.outOfBounds("26 state -1", () -> x.of(-1, 0));
    }

    private static void promise27Told() {
        KeyStates x = withStates(VALUE, 0, LIST, 0, MAP, 0, FOLD, 0);
        x.put(0, 1);
        x.add(1, 1);
        x.add(1, 1);
        x.set(2, 1, 1);
        x.set(2, 2, 1);
        x.set(2, 3, 1);
        x.fold(3, 1);
        x.fold(3, 1);
        x.snapshot();
        x.snapshot();
        x.add(1, 1);
        x.drop(0);
        check.due("27 states", 4, () -> x.told(0));
        check.due("27 entries", 4, () -> x.told(1));
        check.due("27 snapshots", 1, () -> x.told(2));
        check.due("27 shared", 15, () -> x.told(3));
        check.due("27 copied", 1, () -> x.told(4));
        check.due("27 pages in use", 4, () -> x.told(5));
        check.due("27 numbers", 1 + 3 + 3 + 1, () -> x.told(6));
        check.due("27 what 7", BAD, () -> x.told(7));
        check.due("27 what -1", BAD, () -> x.told(-1));
        check.due("27 the least", BAD, () -> x.told(Integer.MIN_VALUE));
        x.clear(1);
        check.due("27 pages in use, one less", 3, () -> x.told(5));
        check.due("27 numbers, three less", 5, () -> x.told(6));
    }

    private static void termsFit() {
        for (int kind = VALUE; kind <= MAP; kind++) {
            for (int type = 0; type <= 2; type++) {
                KeyStates x = withStates(kind, type);
                long[] numbers = {Long.MIN_VALUE, -1001, -1000, -1, 0, 1000, 1001, Long.MAX_VALUE};
                for (long v : numbers) {
                    boolean fits = type == 0 || (type == 1 ? Math.abs(v) <= 1000 && v != Long.MIN_VALUE : v >= 0);
                    String call = "fit of " + v + " for kind " + kind + ", type " + type;
                    String got = Check.answer(() -> write(x, v));
                    check.judge(call, got, fits ? "1" : "throws.IllegalArgumentException");
                    x.clear(0);
                }
            }
        }
        for (int type = 0; type <= 2; type++) {
            KeyStates x = withStates(FOLD, type);
            check.due("fit of the least for a fold", 1, () -> x.fold(0, Long.MIN_VALUE));
            check.due("fit of the greatest for a fold", 2, () -> x.fold(0, Long.MAX_VALUE));
        }
        KeyStates x = withStates(MAP, 2);
        check.due("any member fits", 1, () -> x.set(0, -5, 5));
    }

    private static int write(KeyStates x, long v) {
        switch (x.of(0, 1)) {
            case VALUE:
                return x.put(0, v);
            case LIST:
                return x.add(0, v);
            default:
                return x.set(0, 1, v);
        }
    }

    /** Which page an entry is on is seen by which page is copied when another entry is written. */
    private static void termsPages() {
        long[] keys = {0, 1, -1, 16, 1L << 32, (1L << 32) + 1, Long.MIN_VALUE, Long.MAX_VALUE, 123456789012345L};
        int[] spans = {0, 1, -1, 15, Integer.MIN_VALUE, Integer.MAX_VALUE};
        for (long key : keys) {
            for (int span : spans) {
                for (int state = 0; state < 2; state++) {
                    int wanted = pageOf(key, span, state);
                    for (long probe = 0; probe < 16; probe++) {
                        boolean same = pageOf(probe, 0, 0) == wanted;
                        KeyStates x = withStates(VALUE, 0, VALUE, 0);
                        x.snapshot();
                        x.key(probe);
                        x.put(0, 1);
                        x.key(key);
                        x.span(span);
                        x.put(state, 2);
                        check.due("page of " + key + ", " + span + ", " + state + " beside " + probe,
                                same ? 1 : 2, () -> x.told(4));
                        check.due("pages in use", same ? 1 : 2, () -> x.told(5));
                    }
                }
            }
        }
    }

    private static int pageOf(long key, int span, int state) {
        java.math.BigInteger low = java.math.BigInteger.valueOf((key & 0xffffffffL) ^ (key >>> 32));
        java.math.BigInteger times = java.math.BigInteger.valueOf(31);
        java.math.BigInteger h = low.multiply(times).add(java.math.BigInteger.valueOf(span)).multiply(times)
                .add(java.math.BigInteger.valueOf(state));
        return h.mod(java.math.BigInteger.valueOf(16)).intValue();
    }

    private static void termsShared() {
        KeyStates x = withStates(VALUE, 0);
        x.snapshot();
        x.snapshot();
        check.due("shared with two, counted once", 16, () -> x.told(3));
        check.due("still with the other", 16, () -> x.drop(0));
        check.due("with none", 0, () -> x.drop(1));
        x.put(0, 1);
        check.due("nothing shared, nothing copied", 0, () -> x.told(4));
        x.snapshot();
        x.snapshot();
        x.put(0, 2);
        check.due("copied once for two", 1, () -> x.told(4));
        check.due("both keep what they have", 1, () -> x.ask(2, 0, 1, 0, 0));
        check.due("both, the other", 1, () -> x.ask(3, 0, 1, 0, 0));
        check.due("one is not shared", 15, () -> x.told(3));
        x.restore(2);
        check.due("restoring shares all", 16, () -> x.told(3));
        check.due("a page that both have is shared with both", 16, () -> x.drop(2));
        x.put(0, 9);
        check.due("so it is copied", 2, () -> x.told(4));
        check.due("and the other keeps it", 1, () -> x.ask(3, 0, 1, 0, 0));
        x.restore(3);
        x.put(0, 8);
        check.due("after restoring it is copied again", 3, () -> x.told(4));
        check.due("and the snapshot keeps it", 1, () -> x.ask(3, 0, 1, 0, 0));
    }

    private static void termsCopied() {
        KeyStates x = withStates(VALUE, 0, LIST, 0, MAP, 0, FOLD, 0);
        x.put(0, 1);
        x.add(1, 1);
        x.set(2, 1, 1);
        x.fold(3, 1);
        copies("put of what it has", 1, x, () -> x.put(0, 1));
        copies("add", 1, x, () -> x.add(1, 2));
        copies("set of what it has", 1, x, () -> x.set(2, 1, 1));
        copies("set of a member", 1, x, () -> x.set(2, 2, 1));
        copies("remove of one not there", 0, x, () -> Check.bit(x.remove(2, 3)));
        copies("remove", 1, x, () -> Check.bit(x.remove(2, 2)));
        copies("fold", 1, x, () -> x.fold(3, 0));
        copies("reading", 0, x, () -> x.value(0) + x.item(1, 0) + x.get(2, 1) + x.member(2, 0) + x.size(3));
        copies("asking", 0, x, () -> x.keys(0) + x.keyAt(0, 0) + x.entries(-1, 0) + x.ask(-1, 0, 1, 0, 0));
        copies("a state", 0, x, () -> x.state(9, 0, 0));
        copies("clear of nothing", 0, x, () -> Check.bit(x.clear(4)));
        copies("move without entries", 0, x, () -> x.move(4, 1, 1));
        copies("move as it is", 1, x, () -> x.move(0, 0, 0));
        copies("move to another type", 1, x, () -> x.move(0, 0, 1));
        copies("move to another kind", 1, x, () -> x.move(0, 1, 0));
        copies("move that is refused", 0, x, () -> x.move(0, 2, 0));
        copies("clear", 1, x, () -> Check.bit(x.clear(0)));
        copies("clearSpan of three pages", 3, x, () -> x.clearSpan());
        copies("clearSpan of none", 0, x, () -> x.clearSpan());
        x.move(0, 3, 0);
        x.move(0, 0, 0);
        x.key(0);
        x.put(0, 1);
        x.key(16);
        x.put(0, 1);
        copies("clearSpan of two on a page", 1, x, () -> x.clearSpan());
        x.put(0, 1);
        x.key(0);
        x.put(0, 1);
        copies("move of two on a page", 1, x, () -> x.move(0, 1, 0));
    }

    private static void copies(String what, int want, KeyStates x, Check.Call call) {
        int snapshot = x.snapshot();
        int before = x.told(4);
        call.go();
        check.due("copied by " + what, want, () -> x.told(4) - before);
        check.due("shared after " + what, 16 - want, () -> x.told(3));
        x.drop(snapshot);
    }

    private static void termsMoving() {
        boolean[][] can = {
            {true, true, false, true}, {false, true, false, true}, {false, true, true, false}, {true, false, false, false}};
        for (int from = 0; from < 4; from++) {
            for (int to = 0; to < 4; to++) {
                int target = to;
                KeyStates x = withStates(from, 0);
                check.due("move " + from + " to " + to, can[from][to] ? 0 : NO, () -> x.move(0, target, 0));
                check.due("the kind then", can[from][to] ? to : from, () -> x.of(0, 1));
            }
        }
        KeyStates x = withStates(VALUE, 0, LIST, 0, LIST, 0, LIST, 0, MAP, 0, MAP, 0, FOLD, 0, VALUE, 0);
        x.put(0, -7);
        for (int s = 1; s <= 3; s++) {
            x.add(s, 4);
            x.add(s, -6);
            x.add(s, 1);
        }
        x.set(4, 2, 20);
        x.set(4, 1, 10);
        x.set(5, 2, 20);
        x.set(5, 1, -10);
        x.fold(6, 30);
        x.fold(6, 40);
        x.put(7, 1000);
        check.due("value to list", 1, () -> x.move(0, LIST, 1));
        check.due("its number", -7, () -> x.item(0, 0));
        check.due("one of them", 1, () -> x.size(0));
        check.due("it takes more", 2, () -> x.add(0, 3));
        check.due("list to fold", 1, () -> x.move(0, FOLD, 0));
        check.due("folded", -4, () -> x.value(0));
        check.due("fold to value", 1, () -> x.move(0, VALUE, 1));
        check.due("a value's size", 1, () -> x.size(0));
        check.due("value to fold", 1, () -> x.move(0, FOLD, 2));
        check.due("1 folded", 1, () -> x.size(0));
        check.due("its number too", -4, () -> x.value(0));
        check.due("then 2", 2, () -> x.fold(0, -9));
        check.due("the greatest", -4, () -> x.value(0));
        check.due("list to sum", 1, () -> x.move(1, FOLD, 0));
        check.due("sum", -1, () -> x.value(1));
        check.due("list to least", 1, () -> x.move(2, FOLD, 1));
        check.due("least", -6, () -> x.value(2));
        check.due("list to greatest", 1, () -> x.move(3, FOLD, 2));
        check.due("greatest", 4, () -> x.value(3));
        check.due("all were folded", 3, () -> x.size(3));
        check.due("a fold counts one", 1 + 1 + 1 + 1 + 2 + 2 + 1 + 1, () -> x.told(6));
        check.due("map to list", 1, () -> x.move(4, LIST, 2));
        check.due("by rising members", 10, () -> x.item(4, 0));
        check.due("then the next", 20, () -> x.item(4, 1));
        check.due("add to it", 3, () -> x.add(4, 0));
        check.due("map to a type that does not fit", NO, () -> x.move(5, LIST, 2));
        check.due("map to map that does not fit", NO, () -> x.move(5, MAP, 2));
        check.due("map to map", 1, () -> x.move(5, MAP, 1));
        check.due("as it is", -10, () -> x.get(5, 1));
        check.due("with its members", 2, () -> x.member(5, 1));
        check.due("fold to a list", NO, () -> x.move(6, LIST, 0));
        check.due("fold to value", 1, () -> x.move(6, VALUE, 2));
        check.due("its number", 70, () -> x.value(6));
        x.key(2);
        x.put(7, 1001);
        check.due("one of two does not fit", NO, () -> x.move(7, LIST, 1));
        check.due("the type stays", 0, () -> x.of(7, 2));
        check.due("another type fits", 2, () -> x.move(7, VALUE, 2));
        check.badArgument("the new type is what fits", () -> x.put(7, -1));
    }

    private static void termsExceptionsInOrder() {
        KeyStates x = withStates(VALUE, 1, LIST, 1, MAP, 1, FOLD, 1);
        x.leave();
        check.outOfBounds("no state before no key", () -> x.put(4, 5000));
        check.badArgument("no fit before no key", () -> x.put(0, 5000));
        check.badArgument("kind before no key", () -> x.put(1, 0));
        check.badState("put without a key", () -> x.put(0, 0));
        check.badArgument("kind before no key: value", () -> x.value(1));
        check.badState("value without a key", () -> x.value(0));
        check.badArgument("no fit before no key: add", () -> x.add(1, 5000));
        check.badState("add without a key", () -> x.add(1, 0));
        check.badArgument("kind before no key: item", () -> x.item(0, -1));
        check.badState("item without a key, before the index", () -> x.item(1, -1));
        check.badArgument("no fit before no key: set", () -> x.set(2, 0, 5000));
        check.badState("set without a key", () -> x.set(2, 5000, 0));
        check.badArgument("kind before no key: get", () -> x.get(3, 0));
        check.badState("get without a key", () -> x.get(2, 0));
        check.badArgument("kind before no key: member", () -> x.member(1, 0));
        check.badState("member without a key, before the index", () -> x.member(2, -1));
        check.badArgument("kind before no key: remove", () -> Check.bit(x.remove(1, 0)));
        check.badState("remove without a key", () -> Check.bit(x.remove(2, 0)));
        check.badArgument("kind before no key: fold", () -> x.fold(0, 0));
        check.badState("fold without a key", () -> x.fold(3, 0));
        KeyStates y = withStates(VALUE, 0, VALUE, 2);
        fill(y);
        y.leave();
        check.badState("no key before FULL", () -> y.put(0, 0));
        y.key(1);
        check.badArgument("no fit before FULL", () -> y.put(1, -1));
    }

    private static void termsRefusedChangesNothing() {
        KeyStates x = withStates(VALUE, 1, LIST, 1, MAP, 1, FOLD, 1);
        x.put(0, 1);
        for (int n = 0; n < 10; n++) {
            x.add(1, n);
            x.set(2, n, n);
        }
        x.snapshot();
        Check.Call[] refused = {
            () -> x.put(0, 1001), () -> x.put(1, 0), () -> x.add(1, 1), () -> x.add(1, 1001), () -> x.set(2, 10, 0),
            () -> x.set(2, 1, 1001), () -> Check.bit(x.remove(2, 10)), () -> x.move(0, 2, 0), () -> x.move(0, 4, 0),
            () -> x.state(100, 0, 0), () -> x.state(1, 4, 0), () -> x.drop(1), () -> x.restore(1), () -> x.value(3)};
        for (int n = 0; n < refused.length; n++) {
            Check.answer(refused[n]);
            check.due("states after refused " + n, 4, () -> x.told(0));
            check.due("entries after refused " + n, 3, () -> x.told(1));
            check.due("snapshots after refused " + n, 1, () -> x.told(2));
            check.due("shared after refused " + n, 16, () -> x.told(3));
            check.due("copied after refused " + n, 0, () -> x.told(4));
            check.due("numbers after refused " + n, 21, () -> x.told(6));
        }
        check.due("the number stays", 1, () -> x.value(0));
        check.due("the member's number stays", 1, () -> x.get(2, 1));
        check.due("the kind stays", VALUE, () -> x.of(0, 1));
        check.due("the type stays", 1, () -> x.of(0, 2));
    }
}
