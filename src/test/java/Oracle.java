import java.util.ArrayList;
import java.util.Arrays;
import java.util.Comparator;
import java.util.HashMap;
import java.util.IdentityHashMap;
import java.util.List;
import java.util.Map;

/**
 * A second, slow reading of the document, to hold NestShelf against. Its things are real Java
 * arrays and objects, so that the Java machine's own instanceof, cast and array store say what
 * passes a TEST and what may hang where.
 */
final class Oracle {
    static class Token {
        final int value;
        Object hung;

        Token(int value) {
            this.value = value;
        }
    }

    static final class Ranked extends Token {
        Ranked(int value) {
            super(value);
        }
    }

    private static final Class<?>[] TESTS = {
        int[].class, long[].class, char[].class, int[][].class, Token[].class, Token[][].class,
        Ranked[].class, Token.class, Ranked.class,
    };

    private final List<Object> things = new ArrayList<>();
    private final Map<Object, Integer> ids = new IdentityHashMap<>();
    private int status = 0;

    private int add(Object thing) {
        ids.put(thing, things.size());
        things.add(thing);
        return things.size() - 1;
    }

    private boolean there(int thing) {
        return thing >= 0 && thing < things.size();
    }

    private static Object blank(int kind, int n) {
        switch (kind) {
            case 0: return new int[n];
            case 1: return new long[n];
            case 2: return new char[n];
            case 3: return new int[n][];
            case 4: return new Token[n];
            case 5: return new Token[n][];
            default: return new Ranked[n];
        }
    }

    int make(int kind, int n) {
        if (kind < 0 || kind > 6) return -1;
        if (n > 500 || things.size() == 2000) return -2;
        return n < 0 ? -3 : add(blank(kind, n));
    }

    int token(int v, boolean ranked) {
        if (things.size() == 2000) return -2;
        return add(ranked ? new Ranked(v) : new Token(v));
    }

    private static int kindOf(Object thing) {
        for (int k = 0; k < TESTS.length; k++) {
            if (thing.getClass() == TESTS[k]) return k;
        }
        throw new AssertionError();
    }

    int kind(int thing) {
        return there(thing) ? kindOf(things.get(thing)) : -1;
    }

    private static int lengthOf(Object thing) {
        if (thing instanceof Ranked) return 0;
        return thing instanceof Token ? 1 : java.lang.reflect.Array.getLength(thing);
    }

    int length(int thing) {
        return there(thing) ? lengthOf(things.get(thing)) : -1;
    }

    int put(int thing, int i, long v) {
        if (!there(thing)) return 1;
        Object row = things.get(thing);
        if (kindOf(row) > 2) return 4;
        if (i < 0 || i >= lengthOf(row)) return 2;
        if (row instanceof int[]) ((int[]) row)[i] = (int) v;
        if (row instanceof long[]) ((long[]) row)[i] = v;
        if (row instanceof char[]) ((char[]) row)[i] = (char) v;
        return 0;
    }

    private static boolean holder(Object thing) {
        int kind = kindOf(thing);
        return kind > 2 && kind != 8;
    }

    int hang(int thing, int i, int child) {
        if (!there(thing) || (child != -1 && !there(child))) return 1;
        Object to = things.get(thing);
        if (!holder(to)) return 4;
        if (i < 0 || i >= lengthOf(to)) return 2;
        Object what = child == -1 ? null : things.get(child);
        if (to instanceof Token) {
            ((Token) to).hung = what;
            return 0;
        }
        try {
            ((Object[]) to)[i] = what;
            return 0;
        } catch (ArrayStoreException e) {
            return 3;
        }
    }

    private static long numberAt(Object thing, int i) {
        if (thing instanceof int[]) return ((int[]) thing)[i];
        if (thing instanceof long[]) return ((long[]) thing)[i];
        if (thing instanceof char[]) return ((char[]) thing)[i];
        return ((Token) thing).value;
    }

    long number(int thing, int i) {
        status = numberStatus(thing, i);
        return status == 0 ? numberAt(things.get(thing), i) : 0;
    }

    private int numberStatus(int thing, int i) {
        if (!there(thing)) return 1;
        Object what = things.get(thing);
        int kind = kindOf(what);
        if (kind >= 3 && kind <= 6) return 4;
        int places = kind >= 7 ? 1 : lengthOf(what);
        return i < 0 || i >= places ? 2 : 0;
    }

    private static Object[] hungIn(Object thing) {
        if (!holder(thing)) return new Object[0];
        return thing instanceof Token ? new Object[] {((Token) thing).hung} : (Object[]) thing;
    }

    int below(int thing, int i) {
        status = 0;
        if (!there(thing)) status = 1;
        else if (!holder(things.get(thing))) status = 4;
        else if (i < 0 || i >= lengthOf(things.get(thing))) status = 2;
        if (status != 0) return -2;
        Object what = hungIn(things.get(thing))[i];
        return what == null ? -1 : ids.get(what);
    }

    int is(int thing, int test) {
        if (test < 0 || test > 8 || (thing != -1 && !there(thing))) return -1;
        return TESTS[test].isInstance(thing == -1 ? null : things.get(thing)) ? 1 : 0;
    }

    int as(int thing, int test) {
        if (test < 0 || test > 8 || (thing != -1 && !there(thing))) return -1;
        try {
            TESTS[test].cast(thing == -1 ? null : things.get(thing));
            return 0;
        } catch (ClassCastException e) {
            return 1;
        }
    }

    private void collect(Object from, Map<Object, Boolean> into) {
        for (Object child : hungIn(from)) {
            if (child != null && into.put(child, true) == null) collect(child, into);
        }
    }

    private Map<Object, Boolean> allBelow(Object thing) {
        Map<Object, Boolean> found = new IdentityHashMap<>();
        collect(thing, found);
        return found;
    }

    private boolean inRing(Object thing) {
        return allBelow(thing).containsKey(thing);
    }

    private boolean ringBelow(Object thing) {
        if (inRing(thing)) return true;
        for (Object under : allBelow(thing).keySet()) {
            if (holder(under) && inRing(under)) return true;
        }
        return false;
    }

    private int depthOf(Object thing, Map<Object, Integer> known) {
        Integer before = known.get(thing);
        if (before != null) return before;
        int most = 0;
        for (Object child : hungIn(thing)) {
            if (child != null) most = Math.max(most, depthOf(child, known));
        }
        known.put(thing, most + 1);
        return most + 1;
    }

    private long weightOf(Object thing, Map<Object, Long> known) {
        Long before = known.get(thing);
        if (before != null) return before;
        long sum = 0;
        int kind = kindOf(thing);
        int numbers = kind <= 2 ? lengthOf(thing) : kind >= 7 ? 1 : 0;
        for (int i = 0; i < numbers; i++) sum += numberAt(thing, i);
        for (Object child : hungIn(thing)) {
            if (child != null) sum += weightOf(child, known);
        }
        known.put(thing, sum);
        return sum;
    }

    private int walkStatus(int... asked) {
        for (int thing : asked) {
            if (!there(thing)) return 1;
        }
        for (int thing : asked) {
            if (ringBelow(things.get(thing))) return 5;
        }
        for (int thing : asked) {
            if (depthOf(things.get(thing), new IdentityHashMap<>()) > 400) return 6;
        }
        return 0;
    }

    long weight(int thing) {
        status = walkStatus(thing);
        return status == 0 ? weightOf(things.get(thing), new IdentityHashMap<>()) : -1;
    }

    int depth(int thing) {
        status = walkStatus(thing);
        return status == 0 ? depthOf(things.get(thing), new IdentityHashMap<>()) : -1;
    }

    int equal(int a, int b) {
        status = walkStatus(a, b);
        if (status != 0) return -1;
        return same(things.get(a), things.get(b), new HashMap<>()) ? 1 : 0;
    }

    private boolean same(Object a, Object b, Map<Long, Boolean> known) {
        if (a == null || b == null) return a == b;
        long key = ids.get(a) * 2000L + ids.get(b);
        Boolean before = known.get(key);
        if (before != null) return before;
        boolean answer = sameHere(a, b);
        Object[] left = hungIn(a);
        Object[] right = hungIn(b);
        for (int i = 0; answer && i < left.length; i++) answer = same(left[i], right[i], known);
        known.put(key, answer);
        return answer;
    }

    private static boolean sameHere(Object a, Object b) {
        if (kindOf(a) != kindOf(b) || lengthOf(a) != lengthOf(b)) return false;
        if (a instanceof int[]) return Arrays.equals((int[]) a, (int[]) b);
        if (a instanceof long[]) return Arrays.equals((long[]) a, (long[]) b);
        if (a instanceof char[]) return Arrays.equals((char[]) a, (char[]) b);
        return !(a instanceof Token) || ((Token) a).value == ((Token) b).value;
    }

    int order(int a, int b) {
        if (!there(a) || !there(b)) return 3;
        if (is(a, 8) == 0 || is(b, 8) == 0) return 2;
        return Integer.compare(((Token) things.get(a)).value, ((Token) things.get(b)).value);
    }

    int sort(int thing) {
        if (!there(thing)) return 1;
        if (is(thing, 4) == 0) return 4;
        Token[] row = (Token[]) things.get(thing);
        for (Token token : row) {
            if (token != null && !(token instanceof Ranked)) return 3;
        }
        Arrays.sort(row, Comparator.nullsLast(Comparator.comparingInt((Token t) -> t.value)));
        return 0;
    }

    int copy(int thing, int deep) {
        status = there(thing) ? 0 : 1;
        if (status == 0 && deep != 0) status = walkStatus(thing);
        if (status == 0) {
            int more = deep == 0 ? 1 : 1 + allBelow(things.get(thing)).size();
            if (things.size() + more > 2000) status = 7;
        }
        if (status != 0) return -1;
        Object original = things.get(thing);
        return ids.get(deep == 0 ? shallow(original) : twin(original, new IdentityHashMap<>()));
    }

    private Object shallow(Object original) {
        Object made;
        if (original instanceof Ranked) {
            made = new Ranked(((Ranked) original).value);
        } else if (original instanceof Token) {
            Token token = new Token(((Token) original).value);
            token.hung = ((Token) original).hung;
            made = token;
        } else {
            int n = lengthOf(original);
            made = blank(kindOf(original), n);
            System.arraycopy(original, 0, made, 0, n);
        }
        add(made);
        return made;
    }

    private Object twin(Object original, Map<Object, Object> made) {
        if (original == null) return null;
        Object before = made.get(original);
        if (before != null) return before;
        Object result = shallow(original);
        made.put(original, result);
        if (!holder(result)) return result;
        if (result instanceof Token) {
            ((Token) result).hung = twin(((Token) result).hung, made);
            return result;
        }
        Object[] row = (Object[]) result;
        for (int i = 0; i < row.length; i++) row[i] = twin(row[i], made);
        return result;
    }

    int ring(int thing) {
        if (!there(thing)) return -1;
        return inRing(things.get(thing)) ? 1 : 0;
    }

    int status() {
        return status;
    }

    int count() {
        return things.size();
    }
}
