/** Each promise of the document, with ordinary inputs, the edges it names, and wrong inputs. */
final class PromiseTest {
    private static final int LOW = Integer.MIN_VALUE;
    private static final int HIGH = Integer.MAX_VALUE;

    public static void main(String[] args) {
        newObject();
        make();
        makeAndTokenWhenFull();
        token();
        put();
        hangWhatMayHang();
        hangRefused();
        kindAndLength();
        number();
        below();
        isAndAs();
        weight();
        weightWithVeryManyWays();
        depthAndTooDeep();
        equal();
        equalWithSharing();
        equalFirstReason();
        order();
        sort();
        sortFullRow();
        copyShallow();
        copyDeepNumbers();
        copyRefused();
        copyIsApart();
        ring();
        statusIsLeftAlone();
        Due.end();
    }

    private static void status(String call, NestShelf x, int want) {
        Due.is("status after " + call, x.status(), want);
    }

    private static void newObject() {
        NestShelf x = new NestShelf();
        status("new", x, 0);
        Due.is("count()", x.count(), 0);
        Due.is("kind(0)", x.kind(0), -1);
    }

    private static void make() {
        NestShelf x = new NestShelf();
        for (int bad : new int[] {-1, 7, 8, LOW, HIGH}) {
            Due.is("make(" + bad + ", 1)", x.make(bad, 1), -1);
            Due.is("make(" + bad + ", -1)", x.make(bad, -1), -1);
            Due.is("make(" + bad + ", 501)", x.make(bad, 501), -1);
        }
        Due.is("make(0, 501)", x.make(0, 501), -2);
        Due.is("make(0, MAX)", x.make(0, HIGH), -2);
        Due.is("make(0, -1)", x.make(0, -1), -3);
        Due.is("make(0, MIN)", x.make(0, LOW), -3);
        Due.is("count() after refusals", x.count(), 0);
        for (int kind = 0; kind <= 6; kind++) {
            Due.is("make(kind, 0)", x.make(kind, 0), 2 * kind);
            Due.is("make(kind, 500)", x.make(kind, 500), 2 * kind + 1);
            Due.is("length 0", x.length(2 * kind), 0);
            Due.is("length 500", x.length(2 * kind + 1), 500);
            Due.is("first content", kind < 3 ? x.number(2 * kind + 1, 499) : x.below(2 * kind + 1, 499), kind < 3 ? 0 : -1);
        }
    }

    private static void makeAndTokenWhenFull() {
        NestShelf x = Shelves.withThings(1999);
        Due.is("make as thing 2000", x.make(2, 3), 1999);
        Due.is("make when full", x.make(0, 1), -2);
        Due.is("make when full, n below 0", x.make(0, -1), -2);
        Due.is("make when full, other kind", x.make(7, -1), -1);
        Due.is("token when full", x.token(1, true), -2);
        Due.is("token when full", x.token(1, false), -2);
        Due.is("count() when full", x.count(), 2000);
        Due.is("kind(1999)", x.kind(1999), 2);
        Due.is("kind(2000)", x.kind(2000), -1);
        NestShelf y = Shelves.withThings(1999);
        Due.is("token as thing 2000", y.token(5, true), 1999);
        Due.is("number(1999, 0)", y.number(1999, 0), 5);
    }

    private static void token() {
        NestShelf x = new NestShelf();
        Due.is("token(MIN, true)", x.token(LOW, true), 0);
        Due.is("token(MAX, false)", x.token(HIGH, false), 1);
        Due.is("kind(0)", x.kind(0), 8);
        Due.is("kind(1)", x.kind(1), 7);
        Due.is("number(0, 0)", x.number(0, 0), LOW);
        Due.is("number(1, 0)", x.number(1, 0), HIGH);
        Due.is("below(1, 0)", x.below(1, 0), -1);
    }

    private static void put() {
        NestShelf x = Shelves.oneOfEach();
        long[] values = {0, 1, -1, Integer.MAX_VALUE, Integer.MIN_VALUE, 1L << 31, 1L << 32, 65535, 65536, -65536,
            32768, Long.MAX_VALUE, Long.MIN_VALUE, 0x123456789abcdefL};
        for (long v : values) {
            for (int row = 0; row < 3; row++) {
                Due.is("put(" + row + ", 1, " + v + ")", x.put(row, 1, v), 0);
            }
            Due.is("int of " + v, x.number(0, 1), (int) v);
            Due.is("long of " + v, x.number(1, 1), v);
            Due.is("char of " + v, x.number(2, 1), v & 65535);
            Due.is("weight of int", x.weight(0), (int) v);
            Due.is("weight of long", x.weight(1), v);
            Due.is("weight of char", x.weight(2), v & 65535);
            Due.is("the other place", x.number(0, 0), 0);
        }
        for (int kind = 3; kind <= 8; kind++) {
            Due.is("put(" + kind + ", 0, 1)", x.put(kind, 0, 1), 4);
            Due.is("put(" + kind + ", 9, 1)", x.put(kind, 9, 1), 4);
        }
        Due.is("the value stays", x.number(7, 0), 70);
        for (int place : new int[] {-1, 2, LOW, HIGH}) {
            Due.is("put(0, " + place + ", 1)", x.put(0, place, 1), 2);
        }
        for (int thing : new int[] {-1, 9, LOW, HIGH}) {
            Due.is("put(" + thing + ", 0, 1)", x.put(thing, 0, 1), 1);
            Due.is("put(" + thing + ", -1, 1)", x.put(thing, -1, 1), 1);
        }
    }

    private static void hangWhatMayHang() {
        String[] allowed = {"", "", "", "0", "78", "46", "8", "012345678"};
        for (int kind = 3; kind <= 7; kind++) {
            NestShelf x = Shelves.oneOfEach();
            for (int child = 0; child <= 8; child++) {
                boolean may = allowed[kind].indexOf((char) ('0' + child)) >= 0;
                int before = x.below(kind, 0);
                Due.is("hang(" + kind + ", 0, " + child + ")", x.hang(kind, 0, child), may ? 0 : 3);
                Due.is("below(" + kind + ", 0)", x.below(kind, 0), may ? child : before);
                if (kind < 7) {
                    Due.is("the other place", x.below(kind, 1), -1);
                }
            }
            Due.is("hang(" + kind + ", 0, -1)", x.hang(kind, 0, -1), 0);
            Due.is("below, none", x.below(kind, 0), -1);
        }
    }

    private static void hangRefused() {
        NestShelf x = Shelves.oneOfEach();
        for (int thing : new int[] {-1, 9, LOW, HIGH}) {
            Due.is("hang(" + thing + ", 0, 0)", x.hang(thing, 0, 0), 1);
            Due.is("hang(" + thing + ", 0, -1)", x.hang(thing, 0, -1), 1);
        }
        for (int child : new int[] {-2, 9, LOW, HIGH}) {
            Due.is("hang(0, 0, " + child + ")", x.hang(0, 0, child), 1);
            Due.is("hang(4, 9, " + child + ")", x.hang(4, 9, child), 1);
        }
        for (int kind : new int[] {0, 1, 2, 8}) {
            Due.is("hang(" + kind + ", 0, 7)", x.hang(kind, 0, 7), 4);
            Due.is("hang(" + kind + ", -1, -1)", x.hang(kind, -1, -1), 4);
        }
        for (int place : new int[] {-1, 2, LOW, HIGH}) {
            Due.is("hang(4, " + place + ", 7)", x.hang(4, place, 7), 2);
            Due.is("hang(4, " + place + ", 0)", x.hang(4, place, 0), 2);
            Due.is("hang(7, " + place + ", -1)", x.hang(7, place, -1), 2);
        }
        Due.is("hang(7, 1, 0)", x.hang(7, 1, 0), 2);
        Due.is("nothing hangs", x.below(4, 0), -1);
    }

    private static void kindAndLength() {
        NestShelf x = Shelves.oneOfEach();
        for (int kind = 0; kind <= 8; kind++) {
            Due.is("kind(" + kind + ")", x.kind(kind), kind);
            Due.is("length(" + kind + ")", x.length(kind), kind == 8 ? 0 : kind == 7 ? 1 : 2);
        }
        for (int thing : new int[] {-1, 9, LOW, HIGH}) {
            Due.is("kind(" + thing + ")", x.kind(thing), -1);
            Due.is("length(" + thing + ")", x.length(thing), -1);
        }
    }

    private static void number() {
        NestShelf x = Shelves.oneOfEach();
        x.put(1, 0, -1);
        Due.is("number(1, 0)", x.number(1, 0), -1);
        status("number", x, 0);
        for (int kind = 3; kind <= 6; kind++) {
            Due.is("number of a row of things", x.number(kind, 0), 0);
            status("number(" + kind + ", 0)", x, 4);
            Due.is("number of a row of things", x.number(kind, -1), 0);
            status("number(" + kind + ", -1)", x, 4);
        }
        for (int place : new int[] {-1, 2, LOW, HIGH}) {
            for (int thing : new int[] {1, 7, 8}) {
                Due.is("number(" + thing + ", " + place + ")", x.number(thing, place), 0);
                status("number, no place", x, 2);
            }
        }
        Due.is("number(8, 1)", x.number(8, 1), 0);
        status("number(8, 1)", x, 2);
        Due.is("number(8, 0)", x.number(8, 0), 80);
        status("number(8, 0)", x, 0);
        for (int thing : new int[] {-1, 9, LOW, HIGH}) {
            Due.is("number(" + thing + ", 0)", x.number(thing, 0), 0);
            status("number, no thing", x, 1);
            x.number(7, 0);
        }
    }

    private static void below() {
        NestShelf x = Shelves.oneOfEach();
        x.hang(7, 0, 7);
        Due.is("below(7, 0)", x.below(7, 0), 7);
        status("below(7, 0)", x, 0);
        for (int kind : new int[] {0, 1, 2, 8}) {
            Due.is("below(" + kind + ", 0)", x.below(kind, 0), -2);
            status("below, wrong kind", x, 4);
            Due.is("below(" + kind + ", 5)", x.below(kind, 5), -2);
            status("below, wrong kind", x, 4);
        }
        for (int place : new int[] {-1, 2, LOW, HIGH}) {
            Due.is("below(5, " + place + ")", x.below(5, place), -2);
            status("below, no place", x, 2);
        }
        for (int thing : new int[] {-1, 9, LOW, HIGH}) {
            Due.is("below(" + thing + ", 0)", x.below(thing, 0), -2);
            status("below, no thing", x, 1);
            Due.is("below(3, 1)", x.below(3, 1), -1);
            status("below, none hangs", x, 0);
        }
    }

    private static void isAndAs() {
        NestShelf x = Shelves.oneOfEach();
        String[] passing = {"0", "1", "2", "3", "46", "5", "6", "78", "8"};
        for (int test = 0; test <= 8; test++) {
            for (int thing = 0; thing <= 8; thing++) {
                boolean due = passing[test].indexOf((char) ('0' + thing)) >= 0;
                Due.is("is(" + thing + ", " + test + ")", x.is(thing, test), due ? 1 : 0);
                Due.is("as(" + thing + ", " + test + ")", x.as(thing, test), due ? 0 : 1);
            }
            Due.is("is(-1, " + test + ")", x.is(-1, test), 0);
            Due.is("as(-1, " + test + ")", x.as(-1, test), 0);
        }
        for (int bad : new int[] {-1, 9, LOW, HIGH}) {
            Due.is("is(0, " + bad + ")", x.is(0, bad), -1);
            Due.is("as(0, " + bad + ")", x.as(0, bad), -1);
            Due.is("is(-1, " + bad + ")", x.is(-1, bad), -1);
            Due.is("as(-1, " + bad + ")", x.as(-1, bad), -1);
        }
        for (int bad : new int[] {-2, 9, LOW, HIGH}) {
            Due.is("is(" + bad + ", 0)", x.is(bad, 0), -1);
            Due.is("as(" + bad + ", 0)", x.as(bad, 0), -1);
        }
    }

    private static void weight() {
        NestShelf x = Shelves.oneOfEach();
        x.put(1, 0, Long.MAX_VALUE);
        x.put(1, 1, 2);
        Due.is("weight(1) wraps", x.weight(1), Long.MIN_VALUE + 1);
        x.put(1, 0, -3);
        Due.is("weight(1) of -1", x.weight(1), -1);
        status("a weight of -1", x, 0);
        Due.is("weight(8)", x.weight(8), 80);
        x.hang(4, 0, 8);
        x.hang(4, 1, 7);
        x.hang(7, 0, 8);
        Due.is("weight(4)", x.weight(4), 80 + 70 + 80);
        x.hang(5, 0, 4);
        x.hang(5, 1, 4);
        Due.is("weight(5)", x.weight(5), 2 * (80 + 70 + 80));
        x.hang(7, 0, 1);
        Due.is("weight(5) later", x.weight(5), 2 * (80 + 70 - 1));
        Due.is("weight(0)", x.weight(0), 0);
        x.hang(7, 0, 5);
        Due.is("weight(5) in a ring", x.weight(5), -1);
        status("weight, ring", x, 5);
        x.token(1, false);
        x.hang(9, 0, 4);
        Due.is("weight(9) above a ring", x.weight(9), -1);
        status("weight, ring below", x, 5);
        Due.is("weight(10)", x.weight(10), -1);
        status("weight, no thing", x, 1);
    }

    // 2 to the power 60 ways: only a walk that takes each thing once comes to an end.
    private static void weightWithVeryManyWays() {
        NestShelf x = new NestShelf();
        int under = x.token(1, false);
        for (int k = 0; k < 60; k++) {
            int row = x.make(4, 2);
            x.hang(row, 0, under);
            x.hang(row, 1, under);
            under = x.token(0, false);
            x.hang(under, 0, row);
        }
        Due.is("weight, many ways", x.weight(under), 1L << 60);
        Due.is("depth, many ways", x.depth(under), 121);
        int twin = x.copy(under, 1);
        Due.is("count, many ways", x.count(), 242);
        Due.is("equal, many ways", x.equal(under, twin), 1);
        Due.is("ring, many ways", x.ring(under), 0);
        // Number 0 is the lowest token; its twin is the last of the copies.
        x.hang(0, 0, x.token(1, true));
        Due.is("equal, many ways, unlike at the end", x.equal(under, twin), 0);
    }

    private static void depthAndTooDeep() {
        NestShelf x = Shelves.chain(400);
        Due.is("count of the chain", x.count(), 400);
        Due.is("depth(399)", x.depth(399), 1);
        Due.is("depth(0)", x.depth(0), 400);
        status("depth 400", x, 0);
        Due.is("weight(0)", x.weight(0), 400);
        Due.is("equal(0, 0)", x.equal(0, 0), 1);
        Due.is("token", x.token(5, false), 400);
        x.hang(400, 0, 0);
        Due.is("depth of 401", x.depth(400), -1);
        status("depth of 401", x, 6);
        Due.is("weight of 401", x.weight(400), -1);
        status("weight of 401", x, 6);
        Due.is("equal, left of 401", x.equal(400, 0), -1);
        status("equal, left of 401", x, 6);
        Due.is("equal, right of 401", x.equal(0, 400), -1);
        status("equal, right of 401", x, 6);
        Due.is("deep copy of 401", x.copy(400, 1), -1);
        status("deep copy of 401", x, 6);
        Due.is("count", x.count(), 401);
        Due.is("ring of 401", x.ring(400), 0);
        Due.is("depth(0)", x.depth(0), 400);
        status("depth(0)", x, 0);
        Due.is("shallow copy of 401", x.copy(400, 0), 401);
        status("shallow copy of 401", x, 0);
        x.hang(399, 0, 400);
        Due.is("ring(0), 401 things", x.ring(0), 1);
        Due.is("depth of a ring that is long", x.depth(0), -1);
        status("depth of a ring that is long", x, 5);
        depthTakesTheLongestWay();
    }

    private static void depthTakesTheLongestWay() {
        NestShelf x = Shelves.oneOfEach();
        x.hang(4, 0, 7);
        x.hang(4, 1, 8);
        Due.is("depth(4)", x.depth(4), 2);
        x.hang(7, 0, 3);
        Due.is("depth(4)", x.depth(4), 3);
        x.hang(3, 1, 0);
        Due.is("depth(4)", x.depth(4), 4);
        Due.is("depth(8)", x.depth(8), 1);
        Due.is("depth(5)", x.depth(5), 1);
        Due.is("depth(-1)", x.depth(-1), -1);
        status("depth(-1)", x, 1);
    }

    private static void equal() {
        NestShelf x = Shelves.oneOfEach();
        for (int a = 0; a <= 8; a++) {
            for (int b = 0; b <= 8; b++) {
                Due.is("equal(" + a + ", " + b + ")", x.equal(a, b), a == b ? 1 : 0);
            }
        }
        NestShelf y = new NestShelf();
        y.token(1, false);
        y.token(1, true);
        Due.is("plain and ranked", y.equal(0, 1), 0);
        equalValues();
        y.make(0, 2);
        y.make(0, 3);
        Due.is("lengths", y.equal(2, 3), 0);
        y.make(0, 2);
        y.put(2, 0, 1);
        y.put(2, 1, 2);
        y.put(4, 0, 2);
        y.put(4, 1, 1);
        Due.is("the same numbers otherwise", y.equal(2, 4), 0);
        y.put(4, 0, 1);
        y.put(4, 1, 2);
        Due.is("the same numbers", y.equal(2, 4), 1);
        y.make(6, 0);
        y.make(4, 0);
        Due.is("empty rows of unlike kinds", y.equal(5, 6), 0);
        y.make(3, 2);
        y.make(3, 2);
        y.hang(7, 0, 2);
        Due.is("none against some", y.equal(7, 8), 0);
        Due.is("some against none", y.equal(8, 7), 0);
        y.hang(8, 1, 4);
        Due.is("in other places", y.equal(7, 8), 0);
        y.hang(8, 0, 4);
        y.hang(7, 1, 4);
        Due.is("equal things in both", y.equal(7, 8), 1);
        y.put(4, 1, 0);
        Due.is("unlike below", y.equal(7, 8), 0);
        status("equal", y, 0);
    }

    private static void equalValues() {
        NestShelf x = new NestShelf();
        for (int v : new int[] {4, 5, 4}) {
            x.token(v, true);
            x.token(v, false);
        }
        Due.is("ranked, unlike values", x.equal(0, 2), 0);
        Due.is("plain, unlike values", x.equal(1, 3), 0);
        Due.is("ranked, like values", x.equal(0, 4), 1);
        Due.is("plain, like values", x.equal(1, 5), 1);
    }

    // Equality asks what hangs, not in how many places the same thing hangs.
    private static void equalWithSharing() {
        NestShelf x = new NestShelf();
        x.token(3, false);
        x.token(3, false);
        x.make(4, 2);
        x.make(4, 2);
        x.hang(2, 0, 0);
        x.hang(2, 1, 0);
        x.hang(3, 0, 0);
        x.hang(3, 1, 1);
        Due.is("shared and not", x.equal(2, 3), 1);
        x.hang(1, 0, 2);
        Due.is("one of two unlike", x.equal(2, 3), 0);
        x.hang(0, 0, x.token(9, true));
        x.hang(1, 0, x.token(9, true));
        Due.is("equal again", x.equal(3, 2), 1);
        Due.is("a thing and what it holds", x.equal(1, 5), 0);
    }

    private static void equalFirstReason() {
        NestShelf x = Shelves.chain(400);
        x.hang(x.token(1, false), 0, 0);
        x.hang(x.token(1, false), 0, 401);
        Due.is("deep and ring", x.equal(400, 401), -1);
        status("deep and ring", x, 5);
        Due.is("ring and deep", x.equal(401, 400), -1);
        status("ring and deep", x, 5);
        for (int gone : new int[] {-1, 402, LOW, HIGH}) {
            Due.is("ring and gone", x.equal(401, gone), -1);
            status("ring and gone", x, 1);
            x.count();
            Due.is("gone and deep", x.equal(gone, 400), -1);
            status("gone and deep", x, 1);
        }
        Due.is("unlike kinds, one with a ring", x.equal(x.make(0, 0), 401), -1);
        status("unlike kinds, one with a ring", x, 5);
    }

    private static void order() {
        NestShelf x = new NestShelf();
        int[] values = {LOW, -1, 0, 1, HIGH, 0};
        for (int v : values) {
            x.token(v, true);
        }
        for (int a = 0; a < values.length; a++) {
            for (int b = 0; b < values.length; b++) {
                Due.is("order " + values[a] + ", " + values[b], x.order(a, b), Integer.compare(values[a], values[b]));
            }
        }
        int plain = x.token(0, false);
        int row = x.make(6, 1);
        Due.is("order of plain", x.order(plain, 0), 2);
        Due.is("order of plain", x.order(0, plain), 2);
        Due.is("order of row", x.order(row, row), 2);
        for (int gone : new int[] {-1, 8, LOW, HIGH}) {
            Due.is("order, gone", x.order(gone, 0), 3);
            Due.is("order, gone", x.order(plain, gone), 3);
        }
    }

    private static void sort() {
        NestShelf x = Shelves.oneOfEach();
        for (int kind : new int[] {0, 1, 2, 3, 5, 7, 8}) {
            Due.is("sort(" + kind + ")", x.sort(kind), 4);
        }
        for (int gone : new int[] {-1, 9, LOW, HIGH}) {
            Due.is("sort(" + gone + ")", x.sort(gone), 1);
        }
        Due.is("sort of none", x.sort(4), 0);
        x.hang(4, 1, 7);
        Due.is("sort of one plain", x.sort(4), 3);
        Due.is("unchanged", x.below(4, 0), -1);
        Due.is("unchanged", x.below(4, 1), 7);
        for (int kind : new int[] {4, 6}) {
            int row = x.make(kind, 8);
            int[] values = {5, 0, LOW, 0, HIGH, 5, 0, -1};
            int first = x.count();
            for (int i = 0; i < 8; i++) {
                int made = x.token(values[i], true);
                if (i != 1 && i != 3) {
                    x.hang(row, i, made);
                }
            }
            Due.is("sort(row)", x.sort(row), 0);
            int[] due = {2, 7, 6, 0, 5, 4};
            for (int i = 0; i < 8; i++) {
                Due.is("place " + i, x.below(row, i), i < due.length ? first + due[i] : -1);
            }
            Due.is("sort again", x.sort(row), 0);
            Due.is("place 3", x.below(row, 3), first);
        }
    }

    private static void sortFullRow() {
        NestShelf x = new NestShelf();
        x.make(6, 500);
        x.token(2, true);
        x.token(1, true);
        for (int i = 0; i < 150; i++) {
            x.hang(0, 499 - 3 * i, 1 + i % 2);
        }
        Due.is("sort(0)", x.sort(0), 0);
        for (int i = 0; i < 150; i++) {
            Due.is("place " + i, x.below(0, i), i < 75 ? 2 : 1);
        }
        Due.is("place 150", x.below(0, 150), -1);
        Due.is("place 499", x.below(0, 499), -1);
        Due.is("weight", x.weight(0), 75 + 150);
    }

    private static void copyShallow() {
        NestShelf x = Shelves.oneOfEach();
        x.put(0, 1, -9);
        x.put(1, 0, 1L << 40);
        x.put(2, 0, 65535);
        x.hang(3, 1, 0);
        x.hang(4, 0, 7);
        x.hang(5, 0, 6);
        x.hang(6, 1, 8);
        x.hang(7, 0, 1);
        for (int t = 0; t <= 8; t++) {
            Due.is("copy(" + t + ", 0)", x.copy(t, 0), 9 + t);
            status("copy(" + t + ", 0)", x, 0);
            Due.is("kind", x.kind(9 + t), t);
            Due.is("length", x.length(9 + t), x.length(t));
            Due.is("equal", x.equal(t, 9 + t), 1);
            Due.is("weight", x.weight(9 + t), x.weight(t));
            for (int i = 0; i < x.length(t); i++) {
                Due.is("number", x.number(9 + t, i), x.number(t, i));
                Due.is("below", x.below(9 + t, i), x.below(t, i));
            }
        }
        Due.is("value", x.number(17, 0), 80);
        x.hang(16, 0, 16);
        Due.is("shallow copy of a ring", x.copy(16, 0), 18);
        status("shallow copy of a ring", x, 0);
        Due.is("what hangs in it", x.below(18, 0), 16);
        Due.is("ring(18)", x.ring(18), 0);
    }

    private static void copyDeepNumbers() {
        NestShelf x = Shelves.oneOfEach();
        // 5 holds 4 and 6, 4 holds 7 and 8, 7 holds 3, 3 holds 0 twice, 6 holds 8 twice.
        x.hang(5, 0, 4);
        x.hang(5, 1, 6);
        x.hang(4, 0, 7);
        x.hang(4, 1, 8);
        x.hang(7, 0, 3);
        x.hang(3, 0, 0);
        x.hang(3, 1, 0);
        x.hang(6, 0, 8);
        x.hang(6, 1, 8);
        Due.is("copy(5, -1)", x.copy(5, -1), 9);
        status("copy(5, -1)", x, 0);
        Due.is("count()", x.count(), 16);
        int[] kinds = {5, 4, 7, 3, 0, 8, 6};
        for (int k = 0; k < kinds.length; k++) {
            Due.is("kind(" + (9 + k) + ")", x.kind(9 + k), kinds[k]);
        }
        int[][] hung = {{10, 15}, {11, 14}, {12}, {13, 13}, {}, {}, {14, 14}};
        for (int k = 0; k < hung.length; k++) {
            for (int i = 0; i < hung[k].length; i++) {
                Due.is("below(" + (9 + k) + ", " + i + ")", x.below(9 + k, i), hung[k][i]);
            }
        }
        Due.is("originals stay", x.below(5, 1), 6);
        Due.is("copy(8, MIN)", x.copy(8, LOW), 16);
        Due.is("copy of the copy", x.copy(9, HIGH), 17);
        Due.is("equal", x.equal(5, 17), 1);
    }

    private static void copyRefused() {
        NestShelf x = Shelves.withThings(1900);
        Due.is("deep copy up to 2000", x.copy(0, 1), 1900);
        status("deep copy up to 2000", x, 0);
        Due.is("deep copy when full", x.copy(1, 1), -1);
        status("deep copy when full", x, 7);
        x.below(0, 0);
        Due.is("shallow copy when full", x.copy(1, 0), -1);
        status("shallow copy when full", x, 7);
        Due.is("no such thing when full", x.copy(2000, 0), -1);
        status("no such thing when full", x, 1);
        Due.is("count()", x.count(), 2000);
        NestShelf y = Shelves.withThings(1901);
        Due.is("deep copy up to 2001", y.copy(0, 1), -1);
        status("deep copy up to 2001", y, 7);
        Due.is("nothing was made", y.count(), 1901);
        Due.is("shallow copy", y.copy(0, 0), 1901);
        y.hang(1900, 0, 1900);
        Due.is("deep copy of a ring", y.copy(1900, 1), -1);
        status("deep copy of a ring", y, 5);
        for (int gone : new int[] {-1, 1902, LOW, HIGH}) {
            Due.is("copy(" + gone + ", 0)", y.copy(gone, 0), -1);
            status("shallow copy, gone", y, 1);
            Due.is("copy(" + gone + ", 1)", y.copy(gone, 1), -1);
            status("deep copy, gone", y, 1);
        }
        ringAheadOfFull();
    }

    private static void ringAheadOfFull() {
        NestShelf y = Shelves.withThings(1999);
        int ringed = y.token(0, false);
        y.hang(ringed, 0, ringed);
        Due.is("ring and full", y.copy(ringed, 1), -1);
        status("ring and full", y, 5);
        Due.is("ring, shallow and full", y.copy(ringed, 0), -1);
        status("ring, shallow and full", y, 7);
    }

    private static void copyIsApart() {
        NestShelf x = new NestShelf();
        x.make(0, 1);
        x.make(3, 1);
        x.hang(1, 0, 0);
        int twin = x.copy(1, 1);
        int shallow = x.copy(1, 0);
        x.put(0, 0, 4);
        Due.is("deep copy stays", x.weight(twin), 0);
        Due.is("shallow copy shares", x.weight(shallow), 4);
        x.hang(shallow, 0, -1);
        Due.is("the original keeps its places", x.below(1, 0), 0);
        int row = x.copy(0, 0);
        x.put(row, 0, 11);
        Due.is("the original keeps its numbers", x.number(0, 0), 4);
        Due.is("weight of the original", x.weight(0), 4);
    }

    private static void ring() {
        NestShelf x = new NestShelf();
        for (int k = 0; k < 5; k++) {
            x.token(k, false);
        }
        x.hang(0, 0, 1);
        x.hang(1, 0, 2);
        x.hang(2, 0, 3);
        Due.is("ring(0), a line", x.ring(0), 0);
        x.hang(3, 0, 1);
        Due.is("ring(0), above a ring", x.ring(0), 0);
        for (int k = 1; k <= 3; k++) {
            Due.is("ring(" + k + ")", x.ring(k), 1);
        }
        x.hang(4, 0, 4);
        Due.is("ring(4), in itself", x.ring(4), 1);
        for (int gone : new int[] {-1, 5, LOW, HIGH}) {
            Due.is("ring(" + gone + ")", x.ring(gone), -1);
        }
        ringBehindAnother();
    }

    // The ring that is met first must not hide a later way back to the thing asked for.
    private static void ringBehindAnother() {
        NestShelf x = new NestShelf();
        x.token(0, false);
        x.make(4, 2);
        x.token(1, false);
        x.token(2, false);
        x.hang(0, 0, 1);
        x.hang(1, 0, 2);
        x.hang(2, 0, 2);
        x.hang(1, 1, 3);
        x.hang(3, 0, 0);
        Due.is("ring(0)", x.ring(0), 1);
        Due.is("ring(1)", x.ring(1), 1);
        Due.is("ring(3)", x.ring(3), 1);
        x.hang(3, 0, -1);
        Due.is("ring(0) no more", x.ring(0), 0);
        Due.is("weight(3)", x.weight(3), 2);
        Due.is("weight(0)", x.weight(0), -1);
        status("weight(0)", x, 5);
    }

    private static void statusIsLeftAlone() {
        NestShelf x = Shelves.oneOfEach();
        int want = 1;
        for (int round = 0; round < 2; round++) {
            if (round == 0) {
                x.weight(99);
            } else {
                x.weight(8);
                want = 0;
            }
            x.make(9, 9);
            x.make(0, 1);
            x.token(1, true);
            x.put(99, 0, 0);
            x.put(0, 0, 0);
            x.put(0, 9, 0);
            x.hang(4, 0, 8);
            x.hang(4, 9, 8);
            x.hang(0, 0, 8);
            x.kind(99);
            x.length(99);
            x.is(99, 0);
            x.as(99, 0);
            x.is(0, 0);
            x.order(0, 99);
            x.order(8, 8);
            x.sort(99);
            x.sort(4);
            x.sort(0);
            x.ring(99);
            x.ring(4);
            x.count();
            status("calls that tell none", x, want);
            status("status itself", x, want);
        }
    }
}
