import java.util.ArrayList;
import java.util.List;

/**
 * "What is refused changes nothing else": each refused call is made on a shelf of its own, and
 * all that can be seen of the shelf must be as on one where the call was not made. "The STATUS
 * is that of the latest call that tells one": the refused call tells its reason, or leaves it.
 */
final class RefusalTest {
    private static final int LOW = Integer.MIN_VALUE;
    private static final int HIGH = Integer.MAX_VALUE;

    private static final int RINGED = 9;
    private static final int ABOVE_RING = 10;

    public static void main(String[] args) {
        refusedMakes();
        refusedPuts();
        refusedHangs();
        refusedLooks();
        refusedTests();
        refusedWalks();
        refusedEquals();
        refusedOrdersAndSorts();
        refusedCopies();
        refusedWhenTooDeep();
        refusedWhenFull();
        Due.end();
    }

    /** Things 0 to 8 as in Shelves.filled, 9 a token in itself, 10 a token with 9 in it. */
    private static NestShelf shelf() {
        NestShelf x = Shelves.filled();
        x.token(90, false);
        x.token(100, false);
        x.hang(RINGED, 0, RINGED);
        x.hang(ABOVE_RING, 0, RINGED);
        // Thing 4 holds a plain token, so that sort refuses it, behind a ranked one.
        x.hang(4, 0, 8);
        x.hang(4, 1, 7);
        return x;
    }

    private static List<Long> look(NestShelf x, int things) {
        List<Long> seen = new ArrayList<>();
        seen.add((long) x.count());
        for (int t = 0; t < things; t++) {
            seen.add((long) x.kind(t));
            seen.add((long) x.length(t));
            seen.add(x.weight(t));
            seen.add((long) x.depth(t));
            seen.add((long) x.ring(t));
            for (int i = 0; i < 2; i++) {
                seen.add(x.number(t, i));
                seen.add((long) x.below(t, i));
            }
        }
        return seen;
    }

    /** A call that tells no status leaves the one that stands, be it 0 or a reason. */
    private static void silent(String name, long answer, Call call) {
        check(name, withStatus0(), answer, 0, call);
        check(name, withStatus4(), answer, 4, call);
    }

    private static void telling(String name, long answer, int reason, Call call) {
        check(name, withStatus0(), answer, reason, call);
        check(name, withStatus4(), answer, reason, call);
    }

    private static NestShelf withStatus0() {
        NestShelf x = shelf();
        Due.is("weight(8)", x.weight(8), 80);
        return x;
    }

    private static NestShelf withStatus4() {
        NestShelf x = shelf();
        Due.is("number(3, 0)", x.number(3, 0), 0);
        return x;
    }

    private static void check(String name, NestShelf x, long answer, int told, Call call) {
        Due.is(name, call.on(x), answer);
        Due.is("status after " + name, x.status(), told);
        Due.holds("all is as it was after " + name, look(x, 12).equals(look(shelf(), 12)));
        Due.is("the next number after " + name, x.token(1, true), 11);
    }

    private static void refusedMakes() {
        for (int kind : new int[] {-1, 7, 8, LOW, HIGH}) {
            for (int n : new int[] {0, -1, 500, 501}) {
                silent("make(" + kind + ", " + n + ")", -1, y -> y.make(kind, n));
            }
        }
        for (int kind = 0; kind <= 6; kind++) {
            int k = kind;
            silent("make(" + k + ", 501)", -2, y -> y.make(k, 501));
            silent("make(" + k + ", -1)", -3, y -> y.make(k, -1));
        }
        silent("make(0, MAX)", -2, y -> y.make(0, HIGH));
        silent("make(0, MIN)", -3, y -> y.make(0, LOW));
    }

    private static void refusedPuts() {
        for (int gone : new int[] {-1, 11, LOW, HIGH}) {
            silent("put(" + gone + ", 0, 5)", 1, y -> y.put(gone, 0, 5));
            silent("put(" + gone + ", 9, 5)", 1, y -> y.put(gone, 9, 5));
        }
        for (int kind = 3; kind <= 8; kind++) {
            int k = kind;
            silent("put(" + k + ", 0, 5)", 4, y -> y.put(k, 0, 5));
            silent("put(" + k + ", -1, 5)", 4, y -> y.put(k, -1, 5));
        }
        for (int place : new int[] {-1, 2, LOW, HIGH}) {
            for (int row = 0; row <= 2; row++) {
                int r = row;
                silent("put(" + r + ", " + place + ", 5)", 2, y -> y.put(r, place, 5));
            }
        }
    }

    private static void refusedHangs() {
        for (int gone : new int[] {-1, 11, LOW, HIGH}) {
            silent("hang(" + gone + ", 0, 7)", 1, y -> y.hang(gone, 0, 7));
            silent("hang(" + gone + ", 0, -1)", 1, y -> y.hang(gone, 0, -1));
        }
        for (int gone : new int[] {-2, 11, LOW, HIGH}) {
            silent("hang(7, 0, " + gone + ")", 1, y -> y.hang(7, 0, gone));
            silent("hang(0, 0, " + gone + ")", 1, y -> y.hang(0, 0, gone));
            silent("hang(7, 1, " + gone + ")", 1, y -> y.hang(7, 1, gone));
        }
        for (int kind : new int[] {0, 1, 2, 8}) {
            for (int place : new int[] {0, -1, 2}) {
                silent("hang(" + kind + ", " + place + ", 7)", 4, y -> y.hang(kind, place, 7));
                silent("hang(" + kind + ", " + place + ", -1)", 4, y -> y.hang(kind, place, -1));
            }
        }
        for (int place : new int[] {-1, 2, LOW, HIGH}) {
            for (int kind = 3; kind <= 7; kind++) {
                int k = kind;
                silent("hang(" + k + ", " + place + ", 1)", 2, y -> y.hang(k, place, 1));
                silent("hang(" + k + ", " + place + ", -1)", 2, y -> y.hang(k, place, -1));
            }
        }
        silent("hang(7, 1, 8)", 2, y -> y.hang(7, 1, 8));
        hangsOfWrongKind();
    }

    private static void hangsOfWrongKind() {
        String[] allowed = {"", "", "", "0", "78", "46", "8"};
        for (int kind = 3; kind <= 6; kind++) {
            for (int child = 0; child <= 8; child++) {
                if (allowed[kind].indexOf((char) ('0' + child)) >= 0) {
                    continue;
                }
                int k = kind;
                int c = child;
                silent("hang(" + k + ", 0, " + c + ")", 3, y -> y.hang(k, 0, c));
                silent("hang(" + k + ", 1, " + c + ")", 3, y -> y.hang(k, 1, c));
            }
        }
    }

    private static void refusedLooks() {
        for (int gone : new int[] {-1, 11, LOW, HIGH}) {
            silent("kind(" + gone + ")", -1, y -> y.kind(gone));
            silent("length(" + gone + ")", -1, y -> y.length(gone));
            silent("ring(" + gone + ")", -1, y -> y.ring(gone));
            telling("number(" + gone + ", 0)", 0, 1, y -> y.number(gone, 0));
            telling("number(" + gone + ", -1)", 0, 1, y -> y.number(gone, -1));
            telling("below(" + gone + ", 0)", -2, 1, y -> y.below(gone, 0));
            telling("below(" + gone + ", 9)", -2, 1, y -> y.below(gone, 9));
        }
        for (int place : new int[] {0, -1, 2, LOW, HIGH}) {
            for (int kind = 3; kind <= 6; kind++) {
                int k = kind;
                telling("number(" + k + ", " + place + ")", 0, 4, y -> y.number(k, place));
            }
            for (int kind : new int[] {0, 1, 2, 8}) {
                telling("below(" + kind + ", " + place + ")", -2, 4, y -> y.below(kind, place));
            }
        }
        for (int place : new int[] {-1, 2, LOW, HIGH}) {
            for (int kind : new int[] {0, 1, 2, 7, 8}) {
                telling("number(" + kind + ", " + place + ")", 0, 2, y -> y.number(kind, place));
            }
            for (int kind = 3; kind <= 7; kind++) {
                int k = kind;
                telling("below(" + k + ", " + place + ")", -2, 2, y -> y.below(k, place));
            }
        }
        telling("number(7, 1)", 0, 2, y -> y.number(7, 1));
        telling("number(8, 1)", 0, 2, y -> y.number(8, 1));
        telling("below(7, 1)", -2, 2, y -> y.below(7, 1));
    }

    private static void refusedTests() {
        for (int test : new int[] {-1, 9, LOW, HIGH}) {
            for (int thing : new int[] {0, 8, -1, -2, 11}) {
                silent("is(" + thing + ", " + test + ")", -1, y -> y.is(thing, test));
                silent("as(" + thing + ", " + test + ")", -1, y -> y.as(thing, test));
            }
        }
        for (int gone : new int[] {-2, 11, LOW, HIGH}) {
            silent("is(" + gone + ", 0)", -1, y -> y.is(gone, 0));
            silent("as(" + gone + ", 8)", -1, y -> y.as(gone, 8));
        }
    }

    private static void refusedWalks() {
        for (int gone : new int[] {-1, 11, LOW, HIGH}) {
            telling("weight(" + gone + ")", -1, 1, y -> y.weight(gone));
            telling("depth(" + gone + ")", -1, 1, y -> y.depth(gone));
        }
        for (int ringed : new int[] {RINGED, ABOVE_RING}) {
            telling("weight(" + ringed + ")", -1, 5, y -> y.weight(ringed));
            telling("depth(" + ringed + ")", -1, 5, y -> y.depth(ringed));
        }
    }

    private static void refusedEquals() {
        for (int gone : new int[] {-1, 11, LOW, HIGH}) {
            for (int other : new int[] {0, RINGED, -1, 11}) {
                telling("equal(" + gone + ", " + other + ")", -1, 1, y -> y.equal(gone, other));
                telling("equal(" + other + ", " + gone + ")", -1, 1, y -> y.equal(other, gone));
            }
        }
        for (int other : new int[] {0, 7, RINGED, ABOVE_RING}) {
            telling("equal(10, " + other + ")", -1, 5, y -> y.equal(ABOVE_RING, other));
            telling("equal(" + other + ", 9)", -1, 5, y -> y.equal(other, RINGED));
        }
    }

    private static void refusedOrdersAndSorts() {
        for (int gone : new int[] {-1, 11, LOW, HIGH}) {
            silent("order(" + gone + ", 8)", 3, y -> y.order(gone, 8));
            silent("order(7, " + gone + ")", 3, y -> y.order(7, gone));
            silent("sort(" + gone + ")", 1, y -> y.sort(gone));
        }
        for (int kind = 0; kind <= 7; kind++) {
            int k = kind;
            silent("order(" + k + ", 8)", 2, y -> y.order(k, 8));
            silent("order(8, " + k + ")", 2, y -> y.order(8, k));
        }
        for (int kind : new int[] {0, 1, 2, 3, 5, 7, 8}) {
            silent("sort(" + kind + ")", 4, y -> y.sort(kind));
        }
        silent("sort(4)", 3, y -> y.sort(4));
    }

    private static void refusedCopies() {
        for (int gone : new int[] {-1, 11, LOW, HIGH}) {
            telling("copy(" + gone + ", 0)", -1, 1, y -> y.copy(gone, 0));
            telling("copy(" + gone + ", 1)", -1, 1, y -> y.copy(gone, 1));
        }
        for (int deep : new int[] {1, 2, -1, LOW, HIGH}) {
            telling("copy(9, " + deep + ")", -1, 5, y -> y.copy(RINGED, deep));
            telling("copy(10, " + deep + ")", -1, 5, y -> y.copy(ABOVE_RING, deep));
        }
    }

    private static void refusedWhenTooDeep() {
        List<Call> calls = List.of(y -> y.weight(400), y -> y.depth(400), y -> y.equal(400, 0), y -> y.equal(0, 400),
            y -> y.copy(400, 1));
        for (Call call : calls) {
            NestShelf x = Shelves.chain(400);
            x.hang(x.token(5, false), 0, 0);
            Due.is("too deep", call.on(x), -1);
            Due.is("status, too deep", x.status(), 6);
            Due.is("count, too deep", x.count(), 401);
            for (int thing : new int[] {0, 200, 398, 399, 400}) {
                int under = thing == 399 ? -1 : thing == 400 ? 0 : thing + 1;
                Due.is("below(" + thing + ", 0)", x.below(thing, 0), under);
                Due.is("number(" + thing + ", 0)", x.number(thing, 0), thing == 400 ? 5 : 1);
                Due.is("ring(" + thing + ")", x.ring(thing), 0);
            }
            Due.is("weight(0)", x.weight(0), 400);
            Due.is("depth(0)", x.depth(0), 400);
        }
    }

    /** Calls that only a full shelf refuses, seen from the things that they would touch. */
    private static void refusedWhenFull() {
        List<Call> calls = List.of(y -> y.make(0, 2), y -> y.make(6, 0), y -> y.token(3, false), y -> y.token(3, true),
            y -> y.copy(0, 0), y -> y.copy(0, 1), y -> y.copy(1999, 1));
        int[] answers = {-2, -2, -2, -2, -1, -1, -1};
        for (int k = 0; k < answers.length; k++) {
            NestShelf x = Shelves.withThings(2000);
            x.number(0, 0);
            Due.is("full, call " + k, calls.get(k).on(x), answers[k]);
            Due.is("status, full, call " + k, x.status(), k < 4 ? 4 : 7);
            Due.is("count, full, call " + k, x.count(), 2000);
            Due.is("thing 2000 does not come", x.kind(2000), -1);
            Due.is("the first thing is as it was", x.kind(0), 4);
            Due.is("the last thing is as it was", x.kind(1999), 8);
            Due.is("its value", x.number(1999, 0), 98);
            Due.is("what hangs in the first thing", x.below(0, 98), 99);
            Due.is("the weight of the first thing", x.weight(0), 99 * 98 / 2);
        }
    }
}
