import java.util.List;

/**
 * The boundary cases that sentences of the document name, beside those that PromiseTest makes;
 * SENTENCES.md says which test goes with which sentence.
 */
final class BoundaryTest {
    private static final int LOW = Integer.MIN_VALUE;
    private static final int HIGH = Integer.MAX_VALUE;

    public static void main(String[] args) {
        the512thCallAnswers();
        aFullShelfStillAnswers();
        refusedCallsTakeNoNumber();
        eachWayToTheLastThing();
        emptyShelf();
        shelvesAreApart();
        emptyRows();
        lastPlaces();
        placesAtFirst();
        makeRefusesEachKind();
        placesOfTokens();
        theValueStays();
        whatHangsIsTheThingItself();
        whatHungThereDoesNot();
        belowItself();
        waysAreCounted();
        weightWrapsOverWays();
        weightIsInLongs();
        depthOfOne();
        depthThroughRows();
        tooDeepByOnePlace();
        wholeShelfDeep();
        wholeShelfRing();
        widestShelf();
        ringAheadOfTooDeep();
        equalToTheLastPlace();
        equalInAllBits();
        equalOnItself();
        equalOneAgainstMany();
        equalAfterAChange();
        equalWithRings();
        orderFirstReason();
        sortShortRows();
        sortRefusedLeavesTheOrder();
        sortOneTokenInManyPlaces();
        sortFullRow();
        copyOfTheDeepest();
        copyOfOneThing();
        copyWithNone();
        copyFirstReason();
        copyIntoTheLastRoom();
        statusOfEachCall();
        Due.end();
    }

    private static void status(String call, NestShelf x, int want) {
        Due.is("status after " + call, x.status(), want);
    }

    // "An object is used for at most 512 calls after it has been made."
    private static void the512thCallAnswers() {
        NestShelf tokens = new NestShelf();
        for (int call = 1; call <= 512; call++) {
            Due.is("token, call " + call, tokens.token(call, true), call - 1);
        }
        NestShelf rows = new NestShelf();
        for (int call = 1; call <= 511; call++) {
            Due.is("make, call " + call, rows.make(call % 7, 500), call - 1);
        }
        Due.is("count, call 512", rows.count(), 511);
        NestShelf walks = new NestShelf();
        walks.token(-1, false);
        for (int call = 2; call <= 512; call++) {
            Due.is("weight, call " + call, walks.weight(0), -1);
        }
    }

    // "THINGS have the numbers 0, 1, ..", "2000 at most": the last one is like any other.
    private static void aFullShelfStillAnswers() {
        NestShelf x = Shelves.withThings(1999);
        Due.is("the last thing", x.make(4, 2), 1999);
        Due.is("kind(1999)", x.kind(1999), 4);
        Due.is("kind(2000)", x.kind(2000), -1);
        Due.is("hang(1999, 1, 1998)", x.hang(1999, 1, 1998), 0);
        Due.is("hang(1998, 0, 1999)", x.hang(1998, 0, 1999), 0);
        Due.is("hang(1999, 0, 2000)", x.hang(1999, 0, 2000), 1);
        Due.is("below(1999, 1)", x.below(1999, 1), 1998);
        Due.is("ring(1999)", x.ring(1999), 1);
        Due.is("hang(1998, 0, -1)", x.hang(1998, 0, -1), 0);
        Due.is("depth(1999)", x.depth(1999), 2);
        Due.is("is(1999, 4)", x.is(1999, 4), 1);
        Due.is("is(2000, 4)", x.is(2000, 4), -1);
        Due.is("as(2000, 4)", x.as(2000, 4), -1);
        Due.is("order(1999, 2000)", x.order(1999, 2000), 3);
        Due.is("order(1999, 1)", x.order(1999, 1), 2);
        Due.is("equal(1999, 1999)", x.equal(1999, 1999), 1);
        Due.is("equal(1999, 2000)", x.equal(1999, 2000), -1);
        status("equal(1999, 2000)", x, 1);
        Due.is("sort(0) of a full shelf", x.sort(0), 0);
        Due.is("weight(0)", x.weight(0), 99 * 98 / 2);
        Due.is("count()", x.count(), 2000);
    }

    // "What is refused changes nothing else": the next thing has the next number.
    private static void refusedCallsTakeNoNumber() {
        NestShelf x = new NestShelf();
        Due.is("make(7, 1)", x.make(7, 1), -1);
        Due.is("make(0, 501)", x.make(0, 501), -2);
        Due.is("make(0, -1)", x.make(0, -1), -3);
        Due.is("copy(0, 1)", x.copy(0, 1), -1);
        Due.is("token(3, false)", x.token(3, false), 0);
        Due.is("make(-1, 1)", x.make(-1, 1), -1);
        Due.is("hang(0, 0, 0)", x.hang(0, 0, 0), 0);
        Due.is("copy(0, 1) of a ring", x.copy(0, 1), -1);
        Due.is("copy(1, 0)", x.copy(1, 0), -1);
        Due.is("copy(0, 0)", x.copy(0, 0), 1);
        Due.is("make(1, 0)", x.make(1, 0), 2);
        Due.is("count()", x.count(), 3);
    }

    // "2000 at most", "there would be more than 2000 things": each call that makes things.
    private static void eachWayToTheLastThing() {
        List<Call> makers = List.of(y -> y.make(0, 0), y -> y.make(6, 500), y -> y.token(1, true),
            y -> y.token(1, false), y -> y.copy(1, 0), y -> y.copy(1, 1), y -> y.copy(0, 0));
        int[] refused = {-2, -2, -2, -2, -1, -1, -1};
        for (int k = 0; k < refused.length; k++) {
            NestShelf x = Shelves.withThings(1999);
            Due.is("maker " + k + " of the last thing", makers.get(k).on(x), 1999);
            Due.is("length of thing 1999 is told", x.length(1999) >= 0 ? 1 : 0, 1);
            for (int other = 0; other < refused.length; other++) {
                Due.is("maker " + other + " when full", makers.get(other).on(x), refused[other]);
            }
            Due.is("count() when full", x.count(), 2000);
        }
    }

    // "No thing is there; the STATUS is 0."
    private static void emptyShelf() {
        for (int thing : new int[] {0, -1, 1, LOW, HIGH}) {
            NestShelf x = new NestShelf();
            Due.is("put", x.put(thing, 0, 1), 1);
            Due.is("hang", x.hang(thing, 0, -1), 1);
            Due.is("kind", x.kind(thing), -1);
            Due.is("length", x.length(thing), -1);
            Due.is("is", x.is(thing, 0), thing == -1 ? 0 : -1);
            Due.is("as", x.as(thing, 0), thing == -1 ? 0 : -1);
            Due.is("order", x.order(thing, thing), 3);
            Due.is("sort", x.sort(thing), 1);
            Due.is("ring", x.ring(thing), -1);
            Due.is("count", x.count(), 0);
            status("calls that tell none", x, 0);
            List<Call> tellers = List.of(y -> y.number(thing, 0), y -> y.below(thing, 0), y -> y.weight(thing),
                y -> y.depth(thing), y -> y.equal(thing, thing), y -> y.copy(thing, 0), y -> y.copy(thing, 1));
            long[] due = {0, -2, -1, -1, -1, -1, -1};
            for (int k = 0; k < due.length; k++) {
                NestShelf fresh = new NestShelf();
                Due.is("teller " + k + " of " + thing, tellers.get(k).on(fresh), due[k]);
                status("teller " + k + " of " + thing, fresh, 1);
                Due.is("count", fresh.count(), 0);
            }
        }
    }

    // "No thing is there; the STATUS is 0": of a new object, whatever others hold and were asked.
    private static void shelvesAreApart() {
        NestShelf x = Shelves.oneOfEach();
        Due.is("equal, refused", x.equal(0, 99), -1);
        NestShelf y = new NestShelf();
        status("new beside another", y, 0);
        Due.is("count of the new one", y.count(), 0);
        y.token(1, false);
        y.token(2, false);
        Due.is("hang(0, 0, 1) in the new one", y.hang(0, 0, 1), 0);
        status("calls on another", x, 1);
        Due.is("kind(0) of the old one", x.kind(0), 0);
        Due.is("depth(7) of the old one", x.depth(7), 1);
        Due.is("below, refused, in the new one", y.below(0, 1), -2);
        status("a refusal by another", x, 0);
        Due.is("weight(0) of the new one", y.weight(0), 3);
        x.hang(7, 0, 7);
        Due.is("ring(7) of the old one", x.ring(7), 1);
        Due.is("ring(0) of the new one", y.ring(0), 0);
        Due.is("copy in the old one", x.copy(8, 1), 9);
        Due.is("copy in the new one", y.copy(0, 1), 2);
        Due.is("equal in the new one", y.equal(0, 2), 1);
        Due.is("count of the old one", x.count(), 10);
        Due.is("count of the new one", y.count(), 4);
        Due.is("weight(7) of the old one", x.weight(7), -1);
        status("a weight of another", y, 0);
        status("its own weight", x, 5);
    }

    // "a LENGTH of 0 .. 500": a row without a place.
    private static void emptyRows() {
        for (int kind = 0; kind <= 6; kind++) {
            NestShelf x = new NestShelf();
            String row = " of an empty row of kind " + kind;
            Due.is("make" + row, x.make(kind, 0), 0);
            Due.is("token", x.token(1, true), 1);
            Due.is("length" + row, x.length(0), 0);
            for (int place : new int[] {0, -1, 1, LOW, HIGH}) {
                Due.is("put" + row, x.put(0, place, 1), kind <= 2 ? 2 : 4);
                Due.is("hang" + row, x.hang(0, place, 1), kind <= 2 ? 4 : 2);
                Due.is("hang none" + row, x.hang(0, place, -1), kind <= 2 ? 4 : 2);
                Due.is("number" + row, x.number(0, place), 0);
                status("number" + row, x, kind <= 2 ? 2 : 4);
                Due.is("below" + row, x.below(0, place), -2);
                status("below" + row, x, kind <= 2 ? 4 : 2);
            }
            Due.is("weight" + row, x.weight(0), 0);
            Due.is("depth" + row, x.depth(0), 1);
            Due.is("ring" + row, x.ring(0), 0);
            Due.is("sort" + row, x.sort(0), kind == 4 || kind == 6 ? 0 : 4);
            Due.is("copy" + row, x.copy(0, 0), 2);
            Due.is("deep copy" + row, x.copy(0, 1), 3);
            Due.is("kind" + row, x.kind(3), kind);
            Due.is("length" + row, x.length(3), 0);
            Due.is("equal" + row, x.equal(2, 3), 1);
        }
    }

    // "a LENGTH of 0 .. 500 and so many PLACES, from 0 on": the first, the last, and those beside them.
    private static void lastPlaces() {
        for (int n : new int[] {1, 2, 500}) {
            for (int kind = 0; kind <= 6; kind++) {
                NestShelf x = Shelves.oneOfEach();
                int row = x.make(kind, n);
                int child = new int[] {-1, -1, -1, 0, 7, 4, 8}[kind];
                for (int place : new int[] {0, n - 1, n, -1, 500, 501, LOW, HIGH}) {
                    boolean there = place == 0 || place == n - 1;
                    String at = " place " + place + " of " + n + ", kind " + kind;
                    if (kind <= 2) {
                        Due.is("put," + at, x.put(row, place, 5), there ? 0 : 2);
                        Due.is("number," + at, x.number(row, place), there ? 5 : 0);
                    } else {
                        Due.is("hang," + at, x.hang(row, place, child), there ? 0 : 2);
                        Due.is("below," + at, x.below(row, place), there ? child : -2);
                    }
                    status("a look at" + at, x, there ? 0 : 2);
                }
                Due.is("length", x.length(row), n);
                Due.is("depth", x.depth(row), kind <= 2 ? 1 : 2);
                Due.is("the ends alone are set", x.weight(row), (n == 1 ? 1 : 2) * (kind <= 2 ? 5 : x.weight(child)));
            }
        }
    }

    // "a NUMBER in each PLACE, 0 at first", "a thing hangs, or none, as at first".
    private static void placesAtFirst() {
        for (int kind = 0; kind <= 6; kind++) {
            NestShelf x = new NestShelf();
            x.make(kind, 500);
            for (int place = 0; place < 500; place++) {
                Due.is("place " + place + ", kind " + kind, kind <= 2 ? x.number(0, place) : x.below(0, place),
                    kind <= 2 ? 0 : -1);
            }
            status("the last place", x, 0);
        }
    }

    // "-1 if it is another KIND; else -2 if n is above 500 ..; else -3 if n is below 0."
    private static void makeRefusesEachKind() {
        NestShelf x = new NestShelf();
        for (int kind = 0; kind <= 6; kind++) {
            Due.is("make(" + kind + ", 501)", x.make(kind, 501), -2);
            Due.is("make(" + kind + ", MAX)", x.make(kind, HIGH), -2);
            Due.is("make(" + kind + ", -1)", x.make(kind, -1), -3);
            Due.is("make(" + kind + ", MIN)", x.make(kind, LOW), -3);
        }
        Due.is("count()", x.count(), 0);
        NestShelf full = Shelves.withThings(2000);
        for (int kind = -1; kind <= 9; kind++) {
            int want = kind < 0 || kind > 6 ? -1 : -2;
            for (int n : new int[] {-1, 0, 500, 501, LOW, HIGH}) {
                Due.is("make(" + kind + ", " + n + ") when full", full.make(kind, n), want);
            }
        }
        Due.is("count() when full", full.count(), 2000);
    }

    // "A plain TOKEN has one PLACE, 0, ..; a RANKED one has no PLACE."
    private static void placesOfTokens() {
        NestShelf x = new NestShelf();
        x.token(5, false);
        x.token(6, true);
        Due.is("length of a plain token", x.length(0), 1);
        Due.is("length of a ranked token", x.length(1), 0);
        Due.is("below of a plain token at first", x.below(0, 0), -1);
        status("below of a plain token at first", x, 0);
        for (int place : new int[] {1, -1, 2, LOW, HIGH}) {
            Due.is("hang in a plain token", x.hang(0, place, 1), 2);
            Due.is("below of a plain token", x.below(0, place), -2);
            status("below of a plain token", x, 2);
            Due.is("hang in a ranked token", x.hang(1, place, 0), 4);
            Due.is("below of a ranked token", x.below(1, place), -2);
            status("below of a ranked token", x, 4);
        }
        Due.is("hang in place 0 of a ranked token", x.hang(1, 0, 0), 4);
        Due.is("hang none in a ranked token", x.hang(1, 0, -1), 4);
        Due.is("hang in place 0 of a plain token", x.hang(0, 0, 1), 0);
        Due.is("the length stays", x.length(0), 1);
    }

    // "a TOKEN with a VALUE, an int, which stays."
    private static void theValueStays() {
        NestShelf x = new NestShelf();
        int[] values = {LOW, HIGH, -1, 0};
        for (int k = 0; k < 4; k++) {
            x.token(values[k], true);
            x.token(values[k], false);
        }
        x.make(4, 4);
        for (int k = 0; k < 4; k++) {
            Due.is("put into a ranked token", x.put(2 * k, 0, 9), 4);
            Due.is("put into a plain token", x.put(2 * k + 1, 0, 9), 4);
            x.hang(2 * k + 1, 0, 2 * k);
            x.hang(8, k, 2 * k);
        }
        Due.is("sort", x.sort(8), 0);
        for (int k = 0; k < 4; k++) {
            Due.is("the value of a ranked token", x.number(2 * k, 0), values[k]);
            Due.is("the value of a plain token", x.number(2 * k + 1, 0), values[k]);
            int twin = x.copy(2 * k + 1, 1);
            Due.is("the value of a plain copy", x.number(twin, 0), values[k]);
            Due.is("the value of a ranked copy", x.number(twin + 1, 0), values[k]);
        }
    }

    // "What hangs in a PLACE is the thing itself, not a copy."
    private static void whatHangsIsTheThingItself() {
        NestShelf x = new NestShelf();
        x.make(0, 1);
        x.make(3, 2);
        x.token(0, false);
        x.hang(1, 0, 0);
        x.hang(1, 1, 0);
        x.hang(2, 0, 0);
        Due.is("no thing came", x.count(), 3);
        x.put(0, 0, 7);
        Due.is("seen twice from the row", x.weight(1), 14);
        Due.is("seen from the token", x.weight(2), 7);
        for (int place = 0; place <= 1; place++) {
            Due.is("its own number", x.below(1, place), 0);
        }
        x.hang(1, 0, -1);
        Due.is("it hangs elsewhere still", x.below(1, 1), 0);
        Due.is("and in the token", x.below(2, 0), 0);
        x.hang(2, 0, 1);
        Due.is("a later change below", x.weight(2), 7);
        x.hang(1, 0, 0);
        Due.is("a later change two below", x.weight(2), 14);
    }

    // "In PLACE i hangs child then (none, if child is -1), and what hung there does not."
    private static void whatHungThereDoesNot() {
        NestShelf x = new NestShelf();
        for (int k = 0; k < 4; k++) {
            x.token(1 << k, false);
        }
        x.hang(0, 0, 1);
        x.hang(1, 0, 0);
        Due.is("ring(0)", x.ring(0), 1);
        x.hang(1, 0, 2);
        Due.is("ring(0), another hangs there", x.ring(0), 0);
        Due.is("weight(0)", x.weight(0), 7);
        x.hang(0, 0, 3);
        Due.is("weight(0), another hangs there", x.weight(0), 9);
        Due.is("weight(1) stays", x.weight(1), 6);
        Due.is("hang none", x.hang(0, 0, -1), 0);
        Due.is("weight(0), none hangs there", x.weight(0), 1);
        Due.is("depth(0), none hangs there", x.depth(0), 1);
        Due.is("hang none again", x.hang(0, 0, -1), 0);
        Due.is("what hung there is still a thing", x.kind(3), 7);
        Due.is("count()", x.count(), 4);
    }

    // "They hang in one another, in more places than one and even below themselves."
    private static void belowItself() {
        NestShelf x = Shelves.oneOfEach();
        Due.is("a token in itself", x.hang(7, 0, 7), 0);
        Due.is("ring of a token in itself", x.ring(7), 1);
        Due.is("depth of a token in itself", x.depth(7), -1);
        status("depth of a token in itself", x, 5);
        x.hang(7, 0, 5);
        x.hang(5, 1, 4);
        x.hang(4, 1, 7);
        for (int thing : new int[] {4, 5, 7}) {
            Due.is("ring(" + thing + ") through rows", x.ring(thing), 1);
        }
        for (int thing : new int[] {0, 1, 2, 3, 6, 8}) {
            Due.is("ring(" + thing + ") beside it", x.ring(thing), 0);
            Due.is("depth(" + thing + ") beside it", x.depth(thing), 1);
        }
        x.hang(4, 0, 8);
        Due.is("ring of what hangs in a ring", x.ring(8), 0);
        Due.is("weight of what hangs in a ring", x.weight(8), 80);
        status("weight of what hangs in a ring", x, 0);
    }

    // "the first thing alone is a WAY, too. (Two PLACES make two WAYS ..)"
    private static void waysAreCounted() {
        NestShelf x = Shelves.oneOfEach();
        x.put(0, 0, 3);
        Due.is("a row of numbers alone", x.weight(0), 3);
        Due.is("a token alone", x.weight(7), 70);
        Due.is("a row of none", x.weight(3), 0);
        x.hang(3, 1, 0);
        Due.is("one place", x.weight(3), 3);
        x.hang(3, 0, 0);
        Due.is("two places", x.weight(3), 6);
        x.hang(7, 0, 3);
        Due.is("a token and two places below", x.weight(7), 76);
        Due.is("two places are no greater depth", x.depth(7), 3);
    }

    // "The sum, in longs that wrap": 2 to the power 63 and 64 ways.
    private static void weightWrapsOverWays() {
        NestShelf x = new NestShelf();
        int under = x.token(1, false);
        for (int k = 0; k < 64; k++) {
            int row = x.make(4, 2);
            x.hang(row, 0, under);
            x.hang(row, 1, under);
            if (k >= 62) {
                Due.is("weight of 2 to the power " + (k + 1), x.weight(row), k == 62 ? Long.MIN_VALUE : 0);
                status("a weight that wraps", x, 0);
            }
            under = x.token(0, false);
            x.hang(under, 0, row);
        }
        Due.is("depth", x.depth(under), 129);
    }

    // "The sum, in longs": the sum of ints, chars or values does not wrap as ints do.
    private static void weightIsInLongs() {
        NestShelf x = Shelves.oneOfEach();
        x.put(0, 0, HIGH);
        x.put(0, 1, HIGH);
        x.put(2, 0, 65535);
        x.put(2, 1, -1);
        x.put(1, 0, Long.MIN_VALUE);
        x.put(1, 1, Long.MIN_VALUE);
        Due.is("weight of ints", x.weight(0), 2L * HIGH);
        Due.is("weight of chars", x.weight(2), 2 * 65535);
        Due.is("weight of longs wraps", x.weight(1), 0);
        x.put(1, 1, -1);
        Due.is("weight of longs wraps to the greatest", x.weight(1), Long.MAX_VALUE);
        int least = x.token(LOW, true);
        x.hang(6, 0, least);
        x.hang(6, 1, least);
        Due.is("weight of values", x.weight(6), 2L * LOW);
        int minusOne = x.token(-1, true);
        Due.is("weight of -1", x.weight(minusOne), -1);
        status("weight of -1", x, 0);
    }

    // "How many things the longest WAY from it has (1 if nothing hangs in it)."
    private static void depthOfOne() {
        NestShelf x = Shelves.oneOfEach();
        for (int thing = 0; thing <= 8; thing++) {
            Due.is("depth(" + thing + ")", x.depth(thing), 1);
            status("depth(" + thing + ")", x, 0);
        }
        x.hang(4, 1, 8);
        Due.is("depth(4), the last place", x.depth(4), 2);
        x.hang(4, 1, -1);
        Due.is("depth(4), none again", x.depth(4), 1);
    }

    // "a WAY from it has more than 400 things": rows count as tokens do.
    private static void depthThroughRows() {
        NestShelf x = new NestShelf();
        int top = x.token(0, false);
        for (int k = 0; k < 99; k++) {
            int row = x.make(4, 3);
            x.hang(row, 2, top);
            top = x.token(0, false);
            x.hang(top, 0, row);
        }
        Due.is("depth of the first part", x.depth(top), 199);
        int twin = x.copy(top, 1);
        Due.is("its twin", twin, 199);
        x.hang(0, 0, twin);
        Due.is("depth of both", x.depth(top), 398);
        int row = x.make(4, 2);
        x.hang(row, 1, top);
        int rows = x.make(5, 1);
        x.hang(rows, 0, row);
        Due.is("depth of 400", x.depth(rows), 400);
        status("depth of 400", x, 0);
        int over = x.token(0, false);
        x.hang(over, 0, rows);
        Due.is("depth of 401", x.depth(over), -1);
        status("depth of 401", x, 6);
        Due.is("depth of what hangs in it", x.depth(rows), 400);
        status("depth of what hangs in it", x, 0);
    }

    // One way of 401 things among short ones, in the first or in the last place.
    private static void tooDeepByOnePlace() {
        NestShelf x = Shelves.chain(400);
        int row = x.make(4, 3);
        int leaf = x.token(3, true);
        for (int longAt = 0; longAt <= 2; longAt++) {
            for (int place = 0; place <= 2; place++) {
                x.hang(row, place, place == longAt ? 0 : leaf);
            }
            Due.is("depth, place " + longAt, x.depth(row), -1);
            status("depth, place " + longAt, x, 6);
            Due.is("weight, place " + longAt, x.weight(row), -1);
            status("weight, place " + longAt, x, 6);
            x.hang(row, longAt, 1);
            Due.is("depth, one thing less", x.depth(row), 400);
            Due.is("weight, one thing less", x.weight(row), 399 + 2 * 3);
            status("weight, one thing less", x, 0);
        }
    }

    // A way through all 2000 things: too deep, and no call may end in the machine's own error.
    private static void wholeShelfDeep() {
        NestShelf x = Shelves.longestChain();
        Due.is("count()", x.count(), 2000);
        Due.is("depth(0)", x.depth(0), -1);
        status("depth(0)", x, 6);
        Due.is("weight(0)", x.weight(0), -1);
        status("weight(0)", x, 6);
        Due.is("equal(0, 0)", x.equal(0, 0), -1);
        status("equal(0, 0)", x, 6);
        Due.is("equal(1600, 1599)", x.equal(1600, 1599), -1);
        status("equal(1600, 1599)", x, 6);
        Due.is("copy(0, 1)", x.copy(0, 1), -1);
        status("copy(0, 1)", x, 6);
        Due.is("ring(0)", x.ring(0), 0);
        Due.is("depth(1600)", x.depth(1600), 400);
        status("depth(1600)", x, 0);
        Due.is("weight(1600)", x.weight(1600), 400);
        Due.is("depth(1599)", x.depth(1599), -1);
        status("depth(1599)", x, 6);
        Due.is("equal(1600, 1600)", x.equal(1600, 1600), 1);
        Due.is("equal(1600, 1601)", x.equal(1600, 1601), 0);
        status("equal(1600, 1601)", x, 0);
    }

    // "1 if the thing is BELOW itself": a ring through all 2000 things.
    private static void wholeShelfRing() {
        NestShelf x = Shelves.longestChain();
        Due.is("hang(1999, 0, 0)", x.hang(1999, 0, 0), 0);
        for (int thing : new int[] {0, 1, 399, 400, 1000, 1999}) {
            Due.is("ring(" + thing + ")", x.ring(thing), 1);
            Due.is("depth(" + thing + ")", x.depth(thing), -1);
            status("depth(" + thing + ")", x, 5);
        }
        x.hang(1999, 0, 1999);
        Due.is("ring(0) above a ring", x.ring(0), 0);
        Due.is("ring(1999)", x.ring(1999), 1);
        Due.is("weight(0)", x.weight(0), -1);
        status("weight(0)", x, 5);
    }

    // Nearly 2000 rows of 500 places below one thing: 16 parts of a token, a row of rows and 120 rows.
    private static void widestShelf() {
        NestShelf x = new NestShelf();
        x.token(1, false);
        x.hang(0, 0, x.make(5, 500));
        for (int k = 0; k < 120; k++) {
            x.hang(1, 499 - k, x.make(4, 500));
        }
        for (int part = 1; part < 16; part++) {
            Due.is("copy of a part", x.copy(0, 1), 122 * part);
        }
        Due.is("equal parts", x.equal(0, 122 * 15), 1);
        for (int part = 1; part < 16; part++) {
            Due.is("hang a part in the one before", x.hang(122 * part - 1, 499, 122 * part), 0);
        }
        Due.is("weight(0)", x.weight(0), 16);
        Due.is("depth(0)", x.depth(0), 48);
        Due.is("ring(0)", x.ring(0), 0);
        Due.is("equal to the last place", x.equal(122 * 14, 122 * 15), 0);
        Due.is("copy(0, 1)", x.copy(0, 1), -1);
        status("copy(0, 1)", x, 7);
        Due.is("hang the first in the last", x.hang(122 * 16 - 1, 499, 0), 0);
        Due.is("ring(0), by the last place", x.ring(0), 1);
        Due.is("weight(0) of a ring", x.weight(0), -1);
        status("weight(0) of a ring", x, 5);
    }

    // "TOO DEEP, if there is no RING BELOW it": the ring is the reason, wherever it hangs.
    private static void ringAheadOfTooDeep() {
        for (int ringAt = 0; ringAt <= 1; ringAt++) {
            NestShelf x = Shelves.chain(400);
            int ringed = x.token(0, false);
            x.hang(ringed, 0, ringed);
            int row = x.make(4, 2);
            x.hang(row, ringAt, ringed);
            x.hang(row, 1 - ringAt, 0);
            Due.is("weight", x.weight(row), -1);
            status("weight", x, 5);
            Due.is("depth", x.depth(row), -1);
            status("depth", x, 5);
            Due.is("equal", x.equal(row, row), -1);
            status("equal", x, 5);
            Due.is("copy", x.copy(row, 1), -1);
            status("copy", x, 5);
            Due.is("ring", x.ring(row), 0);
            x.hang(ringed, 0, -1);
            Due.is("depth, the ring undone", x.depth(row), -1);
            status("depth, the ring undone", x, 6);
            Due.is("copy, the ring undone", x.copy(row, 1), -1);
            status("copy, the ring undone", x, 6);
        }
    }

    // "of the same KIND, LENGTH, NUMBERS ..": a difference in any place counts.
    private static void equalToTheLastPlace() {
        for (int kind = 0; kind <= 2; kind++) {
            NestShelf x = new NestShelf();
            x.make(kind, 500);
            x.make(kind, 500);
            Due.is("as at first", x.equal(0, 1), 1);
            for (int place : new int[] {0, 250, 499}) {
                x.put(0, place, 1);
                Due.is("place " + place + " unlike", x.equal(0, 1), 0);
                Due.is("place " + place + " unlike", x.equal(1, 0), 0);
                x.put(1, place, 1);
                Due.is("place " + place + " like", x.equal(0, 1), 1);
            }
            // The same sum of numbers must not pass for the same numbers.
            x.put(0, 498, 2);
            x.put(1, 497, 2);
            Due.is("the same sum", x.equal(0, 1), 0);
            x.make(kind, 499);
            x.make(kind, 500);
            Due.is("a place more, all 0", x.equal(2, 3), 0);
        }
        NestShelf y = new NestShelf();
        y.make(4, 500);
        y.make(4, 500);
        y.hang(0, 499, y.token(1, true));
        Due.is("none in the last place", y.equal(0, 1), 0);
        Due.is("none in the last place", y.equal(1, 0), 0);
        y.hang(1, 499, y.token(1, true));
        Due.is("like things in the last place", y.equal(0, 1), 1);
        y.hang(1, 499, y.token(1, false));
        Due.is("things of unlike kinds in the last place", y.equal(0, 1), 0);
    }

    // Longs are compared as 64 bits, ints and chars by what was kept of v.
    private static void equalInAllBits() {
        for (int kind = 0; kind <= 2; kind++) {
            NestShelf x = new NestShelf();
            x.make(kind, 2);
            x.make(kind, 2);
            x.put(0, 0, 1L << 32);
            x.put(0, 1, -(1L << 32));
            Due.is("bits above 32, kind " + kind, x.equal(0, 1), kind == 1 ? 0 : 1);
            x.put(0, 0, 65536);
            x.put(0, 1, -65536);
            Due.is("bits above 16, kind " + kind, x.equal(0, 1), kind == 2 ? 1 : 0);
        }
    }

    private static void equalOnItself() {
        NestShelf x = Shelves.filled();
        for (int thing = 0; thing <= 8; thing++) {
            Due.is("equal(" + thing + ", itself)", x.equal(thing, thing), 1);
            status("equal(" + thing + ", itself)", x, 0);
        }
        int outer = x.token(70, false);
        x.hang(outer, 0, 7);
        Due.is("a token and what hangs in it", x.equal(outer, 7), 0);
        Due.is("what hangs in a token, and it", x.equal(7, outer), 0);
        x.hang(7, 0, -1);
        Due.is("one level more", x.equal(outer, 7), 0);
    }

    // "EQUAL things hang in both": one thing in all places against other things, all like it but one.
    private static void equalOneAgainstMany() {
        for (int unlike = -1; unlike < 4; unlike++) {
            NestShelf x = new NestShelf();
            int one = x.make(4, 4);
            int many = x.make(4, 4);
            int shared = x.token(1, false);
            int first = x.count();
            for (int place = 0; place < 4; place++) {
                x.hang(one, place, shared);
                x.hang(many, place, x.token(place == unlike ? 2 : 1, false));
            }
            int want = unlike == -1 ? 1 : 0;
            Due.is("one against many, unlike in " + unlike, x.equal(one, many), want);
            Due.is("many against one, unlike in " + unlike, x.equal(many, one), want);
            // Things of one row against one another, in a round: each must be like the next one.
            int turned = x.make(4, 4);
            for (int place = 0; place < 4; place++) {
                x.hang(turned, place, first + (place + 1) % 4);
            }
            Due.is("turned by a place, unlike in " + unlike, x.equal(many, turned), want);
            Due.is("turned by a place, unlike in " + unlike, x.equal(turned, many), want);
        }
    }

    // What an earlier call found out does not count once something has changed.
    private static void equalAfterAChange() {
        NestShelf x = new NestShelf();
        for (int row = 0; row < 2; row++) {
            x.make(3, 2);
            x.make(0, 1);
            x.make(0, 1);
            x.hang(3 * row, 0, 3 * row + 1);
            x.hang(3 * row, 1, 3 * row + 2);
        }
        Due.is("equal at first", x.equal(0, 3), 1);
        x.put(2, 0, 1);
        Due.is("those beside the change", x.equal(1, 4), 1);
        Due.is("those with the change", x.equal(2, 5), 0);
        Due.is("those above the change", x.equal(0, 3), 0);
        x.put(5, 0, 1);
        Due.is("those with the same change", x.equal(2, 5), 1);
        Due.is("those above the same change", x.equal(0, 3), 1);
        Due.is("those crossed", x.equal(1, 5), 0);
        Due.is("those above, crossed", x.equal(3, 0), 1);
    }

    // "5 a RING is BELOW one of them": also if they can be told apart at once, or are one thing.
    private static void equalWithRings() {
        NestShelf x = Shelves.oneOfEach();
        x.hang(7, 0, 7);
        x.hang(4, 1, 7);
        int[] others = {0, 4, 5, 7, 8};
        for (int other : others) {
            for (int ringed : new int[] {7, 4}) {
                Due.is("equal(" + ringed + ", " + other + ")", x.equal(ringed, other), -1);
                status("equal(" + ringed + ", " + other + ")", x, 5);
                Due.is("equal(" + other + ", " + ringed + ")", x.equal(other, ringed), -1);
                status("equal(" + other + ", " + ringed + ")", x, 5);
            }
        }
        Due.is("equal(7, 9)", x.equal(7, 9), -1);
        status("equal(7, 9)", x, 1);
        Due.is("equal(-1, 7)", x.equal(-1, 7), -1);
        status("equal(-1, 7)", x, 1);
        Due.is("equal(-1, -1)", x.equal(-1, -1), -1);
        status("equal(-1, -1)", x, 1);
        Due.is("equal(0, 0)", x.equal(0, 0), 1);
        status("equal(0, 0)", x, 0);
    }

    // "3 if one of them is not there; else 2 if one is no RANKED TOKEN."
    private static void orderFirstReason() {
        NestShelf x = Shelves.oneOfEach();
        for (int thing = 0; thing <= 8; thing++) {
            Due.is("order(" + thing + ", 8)", x.order(thing, 8), thing == 8 ? 0 : 2);
            Due.is("order(8, " + thing + ")", x.order(8, thing), thing == 8 ? 0 : 2);
            for (int gone : new int[] {-1, 9, LOW, HIGH}) {
                Due.is("order(" + thing + ", " + gone + ")", x.order(thing, gone), 3);
                Due.is("order(" + gone + ", " + thing + ")", x.order(gone, thing), 3);
            }
        }
        Due.is("order(-1, 9)", x.order(-1, 9), 3);
    }

    // "PLACES where none hangs behind all": rows with no, one or two places.
    private static void sortShortRows() {
        for (int kind : new int[] {4, 6}) {
            NestShelf x = new NestShelf();
            x.token(2, true);
            x.token(1, true);
            int empty = x.make(kind, 0);
            int one = x.make(kind, 1);
            int two = x.make(kind, 2);
            Due.is("sort, no place", x.sort(empty), 0);
            Due.is("sort, one place, none hangs", x.sort(one), 0);
            Due.is("below, one place", x.below(one, 0), -1);
            x.hang(one, 0, 0);
            Due.is("sort, one place", x.sort(one), 0);
            Due.is("below, one place", x.below(one, 0), 0);
            x.hang(two, 1, 0);
            Due.is("sort, none ahead of one", x.sort(two), 0);
            Due.is("below, place 0", x.below(two, 0), 0);
            Due.is("below, place 1", x.below(two, 1), -1);
            x.hang(two, 1, 1);
            Due.is("sort, two", x.sort(two), 0);
            Due.is("below, place 0", x.below(two, 0), 1);
            Due.is("below, place 1", x.below(two, 1), 0);
            Due.is("the length stays", x.length(two), 2);
        }
    }

    // "3 a plain TOKEN hangs in it": in any place, and what is refused changes nothing.
    private static void sortRefusedLeavesTheOrder() {
        for (int plainAt = 0; plainAt <= 3; plainAt++) {
            NestShelf x = new NestShelf();
            x.make(4, 4);
            for (int place = 0; place < 3; place++) {
                x.token(3 - place, true);
                x.hang(0, place, 1 + place);
            }
            x.token(0, false);
            x.hang(0, plainAt, 4);
            Due.is("sort, a plain token in place " + plainAt, x.sort(0), 3);
            for (int place = 0; place <= 3; place++) {
                int want = place == plainAt ? 4 : place == 3 ? -1 : 1 + place;
                Due.is("below(0, " + place + ")", x.below(0, place), want);
            }
            x.hang(0, plainAt, -1);
            Due.is("sort, the plain token gone", x.sort(0), 0);
            Due.is("the least first", x.below(0, 0), plainAt == 2 ? 2 : 3);
        }
    }

    private static void sortOneTokenInManyPlaces() {
        NestShelf x = new NestShelf();
        x.make(6, 5);
        x.token(1, true);
        x.token(0, true);
        x.token(1, true);
        int[] before = {1, 3, 2, 1, 2};
        for (int place = 0; place < 5; place++) {
            x.hang(0, place, before[place]);
        }
        Due.is("sort", x.sort(0), 0);
        int[] after = {2, 2, 1, 3, 1};
        for (int place = 0; place < 5; place++) {
            Due.is("below(0, " + place + ")", x.below(0, place), after[place]);
        }
    }

    // A row with all its 500 places taken, in the order that is farthest from the one due.
    private static void sortFullRow() {
        NestShelf x = new NestShelf();
        x.make(6, 500);
        x.token(HIGH, true);
        x.token(LOW, true);
        for (int place = 0; place < 500; place++) {
            x.hang(0, place, place < 250 ? 1 : 2);
        }
        Due.is("sort of a full row", x.sort(0), 0);
        for (int place : new int[] {0, 1, 249, 250, 251, 499}) {
            Due.is("below(0, " + place + ")", x.below(0, place), place < 250 ? 2 : 1);
        }
        Due.is("weight, the 512th call but one", x.weight(0), -250);
    }

    // "6 deep, and it is TOO DEEP": 400 things are not too deep.
    private static void copyOfTheDeepest() {
        NestShelf x = Shelves.chain(400);
        Due.is("deep copy of depth 400", x.copy(0, 1), 400);
        status("deep copy of depth 400", x, 0);
        Due.is("count()", x.count(), 800);
        for (int k : new int[] {0, 1, 200, 398}) {
            Due.is("below(" + (400 + k) + ", 0)", x.below(400 + k, 0), 401 + k);
        }
        Due.is("below(799, 0)", x.below(799, 0), -1);
        Due.is("depth of the copy", x.depth(400), 400);
        Due.is("equal", x.equal(0, 400), 1);
        x.hang(399, 0, x.token(1, false));
        Due.is("deep copy of depth 401", x.copy(0, 1), -1);
        status("deep copy of depth 401", x, 6);
        Due.is("deep copy of what hangs in it", x.copy(1, 1), 801);
        Due.is("count()", x.count(), 1201);
    }

    // "each thing BELOW being copied once": nothing hangs in it, so it alone is copied, however often.
    private static void copyOfOneThing() {
        for (int thing = 0; thing <= 8; thing++) {
            NestShelf x = Shelves.oneOfEach();
            for (int made = 9; made < 15; made++) {
                x.weight(thing);
                Due.is("deep copy of " + thing, x.copy(thing, 1), made);
                Due.is("count()", x.count(), made + 1);
                Due.is("kind", x.kind(made), thing);
                Due.is("equal", x.equal(made, thing), 1);
            }
        }
    }

    // "copies of them hang there": and where none hangs, none hangs in the copy.
    private static void copyWithNone() {
        for (int deep : new int[] {0, 1, 2, -1, LOW, HIGH}) {
            NestShelf x = new NestShelf();
            x.make(4, 4);
            x.token(5, false);
            x.token(6, true);
            x.hang(0, 1, 1);
            x.hang(0, 3, 2);
            int twin = x.copy(0, deep);
            Due.is("copy(0, " + deep + ")", twin, 3);
            Due.is("count()", x.count(), deep == 0 ? 4 : 6);
            int[] due = {-1, deep == 0 ? 1 : 4, -1, deep == 0 ? 2 : 5};
            for (int place = 0; place < 4; place++) {
                Due.is("below(3, " + place + "), deep " + deep, x.below(3, place), due[place]);
            }
            Due.is("what hangs in the plain copy", x.below(due[1], 0), -1);
            Due.is("equal", x.equal(0, 3), 1);
            x.hang(3, 0, 2);
            Due.is("the original's places are its own", x.below(0, 0), -1);
        }
    }

    // "1 .., 5 .., 6 .., 7 ..": the first reason, on a shelf that is full as well.
    private static void copyFirstReason() {
        NestShelf x = Shelves.longestChain();
        Due.is("too deep and full", x.copy(1599, 1), -1);
        status("too deep and full", x, 6);
        Due.is("not too deep, but full", x.copy(1600, 1), -1);
        status("not too deep, but full", x, 7);
        Due.is("too deep, shallow and full", x.copy(0, 0), -1);
        status("too deep, shallow and full", x, 7);
        Due.is("one thing, but full", x.copy(1999, 1), -1);
        status("one thing, but full", x, 7);
        x.hang(1999, 0, 1999);
        Due.is("ring, deep and full", x.copy(0, 1), -1);
        status("ring, deep and full", x, 5);
        Due.is("ring, shallow and full", x.copy(0, 0), -1);
        status("ring, shallow and full", x, 7);
        for (int gone : new int[] {-1, 2000, LOW, HIGH}) {
            Due.is("gone and full", x.copy(gone, 1), -1);
            status("gone and full", x, 1);
            x.copy(0, 0);
            Due.is("gone, shallow and full", x.copy(gone, 0), -1);
            status("gone, shallow and full", x, 1);
        }
        Due.is("count()", x.count(), 2000);
    }

    // "7 there would be more than 2000 things": things that many ways lead to count once.
    private static void copyIntoTheLastRoom() {
        for (int room = 1; room <= 4; room++) {
            NestShelf x = Shelves.withThings(1997 - room);
            int leaf = x.token(9, true);
            int row = x.make(4, 400);
            int top = x.token(1, false);
            x.hang(row, 0, leaf);
            x.hang(row, 1, leaf);
            x.hang(row, 399, leaf);
            x.hang(top, 0, row);
            Due.is("count()", x.count(), 2000 - room);
            Due.is("deep copy of three things, room " + room, x.copy(top, 1), room >= 3 ? 2000 - room : -1);
            status("deep copy of three things, room " + room, x, room >= 3 ? 0 : 7);
            Due.is("count()", x.count(), room >= 3 ? 2003 - room : 2000 - room);
            if (room >= 3) {
                Due.is("the shared leaf's copy", x.below(2001 - room, 399), 2002 - room);
                Due.is("the same one in place 0", x.below(2001 - room, 0), 2002 - room);
            } else {
                Due.is("nothing of the copy stays", x.kind(2000 - room), -1);
                Due.is("the shallow copy has room", x.copy(top, 0), 2000 - room);
                status("the shallow copy has room", x, 0);
            }
            Due.is("the original holds what it held", x.below(row, 399), leaf);
            Due.is("the original holds what it held", x.below(top, 0), row);
        }
    }

    // "The STATUS is that of the latest call that tells one: 0, or the first reason .."
    private static void statusOfEachCall() {
        List<Call> refused = List.of(y -> y.number(3, 0), y -> y.below(4, 2), y -> y.weight(-1), y -> y.depth(7),
            y -> y.equal(7, 0), y -> y.copy(7, 1));
        int[] reasons = {4, 2, 1, 5, 5, 5};
        List<Call> done = List.of(y -> y.number(0, 0), y -> y.below(4, 0), y -> y.weight(0), y -> y.depth(0),
            y -> y.equal(0, 1), y -> y.copy(0, 1), y -> y.copy(7, 0));
        for (int r = 0; r < reasons.length; r++) {
            for (int d = 0; d < done.size(); d++) {
                NestShelf x = Shelves.oneOfEach();
                x.hang(7, 0, 7);
                refused.get(r).on(x);
                status("refused call " + r, x, reasons[r]);
                status("status", x, reasons[r]);
                done.get(d).on(x);
                status("call " + d + " after refused call " + r, x, 0);
                refused.get(r).on(x);
                refused.get((r + 1) % reasons.length).on(x);
                status("the later of two refused calls", x, reasons[(r + 1) % reasons.length]);
            }
        }
    }
}
