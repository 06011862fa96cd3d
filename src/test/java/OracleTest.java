import java.util.Random;

/** Runs of calls drawn with fixed seeds, each answer held against Oracle's. */
final class OracleTest {
    private static final int CALLS = 512;

    private final Random random;
    private final String name;
    private final NestShelf shelf = new NestShelf();
    private final Oracle oracle = new Oracle();
    private int calls = 0;

    private OracleTest(String name, long seed) {
        this.name = name + " " + seed;
        this.random = new Random(seed);
    }

    public static void main(String[] args) {
        for (long seed = 0; seed < 1500 && !Due.anyWrong(); seed++) {
            new OracleTest("mixed", seed).mixed(seed % 3 == 0 ? 60 : 14);
        }
        for (long seed = 0; seed < 300 && !Due.anyWrong(); seed++) {
            new OracleTest("dag", seed).withoutRings();
        }
        for (long seed = 0; seed < 60 && !Due.anyWrong(); seed++) {
            new OracleTest("full", seed).towardsFull();
        }
        for (long seed = 0; seed < 40 && !Due.anyWrong(); seed++) {
            new OracleTest("deep", seed).towardsDeep();
        }
        for (long seed = 0; seed < 200 && !Due.anyWrong(); seed++) {
            new OracleTest("wild", seed).wildArguments();
        }
        Due.end();
    }

    private void check(String call, long got, long want) {
        calls++;
        if (calls > CALLS) {
            throw new AssertionError(name + " goes on beyond what the document promises");
        }
        Due.is(name + ", call " + calls + ": " + call, got, want);
    }

    private int make(int kind, int n) {
        int want = oracle.make(kind, n);
        check("make(" + kind + ", " + n + ")", shelf.make(kind, n), want);
        return want;
    }

    private int token(int v, boolean ranked) {
        int want = oracle.token(v, ranked);
        check("token(" + v + ", " + ranked + ")", shelf.token(v, ranked), want);
        return want;
    }

    private void put(int t, int i, long v) {
        check("put(" + t + ", " + i + ", " + v + ")", shelf.put(t, i, v), oracle.put(t, i, v));
    }

    private void hang(int t, int i, int c) {
        check("hang(" + t + ", " + i + ", " + c + ")", shelf.hang(t, i, c), oracle.hang(t, i, c));
    }

    private int copy(int t, int deep) {
        int want = oracle.copy(t, deep);
        check("copy(" + t + ", " + deep + ")", shelf.copy(t, deep), want);
        return want;
    }

    private void ask(int what, int t, int u, int i) {
        switch (what) {
            case 0: check("kind(" + t + ")", shelf.kind(t), oracle.kind(t)); break;
            case 1: check("length(" + t + ")", shelf.length(t), oracle.length(t)); break;
            case 2: check("number(" + t + ", " + i + ")", shelf.number(t, i), oracle.number(t, i)); break;
            case 3: check("below(" + t + ", " + i + ")", shelf.below(t, i), oracle.below(t, i)); break;
            case 4: check("is(" + t + ", " + i + ")", shelf.is(t, i), oracle.is(t, i)); break;
            case 5: check("as(" + t + ", " + i + ")", shelf.as(t, i), oracle.as(t, i)); break;
            case 6: check("weight(" + t + ")", shelf.weight(t), oracle.weight(t)); break;
            case 7: check("depth(" + t + ")", shelf.depth(t), oracle.depth(t)); break;
            case 8: check("equal(" + t + ", " + u + ")", shelf.equal(t, u), oracle.equal(t, u)); break;
            case 9: check("order(" + t + ", " + u + ")", shelf.order(t, u), oracle.order(t, u)); break;
            case 10: check("sort(" + t + ")", shelf.sort(t), oracle.sort(t)); break;
            case 11: check("ring(" + t + ")", shelf.ring(t), oracle.ring(t)); break;
            case 12: check("count()", shelf.count(), oracle.count()); break;
            default: break;
        }
        // Status is asked of the other calls, too: those that tell none must leave it alone.
        if (random.nextInt(3) == 0) {
            check("status()", shelf.status(), oracle.status());
        }
    }

    private int anyThing() {
        return random.nextInt(25) == 0 ? random.nextInt(6) - 3 + (random.nextBoolean() ? oracle.count() : 0)
            : random.nextInt(Math.max(1, oracle.count()));
    }

    private int anyPlace(int thing) {
        int length = Math.max(0, oracle.length(thing));
        return random.nextInt(12) == 0 ? random.nextInt(length + 5) - 2 : random.nextInt(Math.max(1, length));
    }

    private int anyValue() {
        int[] edges = {Integer.MIN_VALUE, Integer.MAX_VALUE, -1, 0, 1};
        return random.nextInt(8) == 0 ? edges[random.nextInt(edges.length)] : random.nextInt(5) - 2;
    }

    private long anyNumber() {
        return random.nextInt(4) == 0 ? random.nextLong() : random.nextInt(3);
    }

    private void anyNewThing() {
        if (random.nextBoolean()) {
            token(anyValue(), random.nextBoolean());
        } else {
            make(random.nextInt(20) == 0 ? random.nextInt(12) - 2 : random.nextInt(7),
                random.nextInt(20) == 0 ? random.nextInt(1010) - 5 : random.nextInt(5));
        }
    }

    private void anyQuestion() {
        int what = random.nextInt(13);
        int t = anyThing();
        ask(what, t, anyThing(), what == 4 || what == 5 ? random.nextInt(11) - 1 : anyPlace(t));
    }

    private void fullLook() {
        for (int t = -1; t <= oracle.count() && calls < CALLS - 20; t++) {
            for (int i = 0; i <= oracle.length(t) && i < 6; i++) {
                ask(oracle.kind(t) < 3 ? 2 : 3, t, t, i);
            }
        }
    }

    private void mixed(int mostThings) {
        while (calls < CALLS - 120) {
            int t = anyThing();
            int choice = random.nextInt(10);
            if (oracle.count() < 5 || (choice == 0 && oracle.count() < mostThings)) {
                anyNewThing();
            } else if (choice <= 1) {
                put(t, anyPlace(t), anyNumber());
            } else if (choice <= 5) {
                hang(t, anyPlace(t), random.nextInt(10) == 0 ? -1 : anyThing());
            } else if (choice == 6 && oracle.count() < mostThings * 2) {
                copy(t, random.nextInt(3) - 1);
            } else {
                anyQuestion();
            }
        }
        fullLook();
    }

    // Hanging only what came earlier keeps rings away, so that weights and twins get long lives.
    private void withoutRings() {
        while (calls < CALLS - 120) {
            int t = anyThing();
            int choice = random.nextInt(12);
            if (oracle.count() < 6 || choice == 0) {
                anyNewThing();
            } else if (choice <= 1) {
                put(t, anyPlace(t), anyNumber());
            } else if (choice <= 7) {
                hang(t, anyPlace(t), t <= 0 ? -1 : random.nextInt(t) % Math.max(1, oracle.count()));
            } else if (choice == 8) {
                int made = copy(t, random.nextInt(2));
                ask(8, t, made, 0);
                ask(6, made, t, 0);
            } else {
                ask(6 + random.nextInt(3), t, anyThing(), 0);
            }
        }
        fullLook();
    }

    private void towardsFull() {
        int row = make(4, 500);
        for (int k = 0; k < 90; k++) {
            hang(row, random.nextInt(500), token(anyValue(), random.nextInt(4) != 0));
        }
        while (oracle.count() < 1600 + random.nextInt(400) && calls < CALLS - 200) {
            row = Math.max(0, copy(row, 1));
        }
        while (calls < CALLS - 20) {
            int t = random.nextInt(3) == 0 ? row : anyThing();
            int choice = random.nextInt(6);
            if (choice <= 1) {
                copy(t, random.nextInt(4));
            } else if (choice == 2) {
                anyNewThing();
            } else if (choice == 3) {
                hang(t, anyPlace(t), anyThing());
            } else {
                anyQuestion();
            }
        }
    }

    private void towardsDeep() {
        int head = token(anyValue(), false);
        int tail = head;
        for (int k = 1; k < 24 + random.nextInt(3); k++) {
            int next = token(anyValue(), false);
            hang(tail, 0, next);
            tail = next;
        }
        for (int k = 0; k < 5 && calls < CALLS - 20; k++) {
            int size = tail - head + 1;
            int made = copy(head, 1);
            if (made >= 0) {
                hang(made + size - 1, 0, head);
                head = copy(made, 1);
                tail = head < 0 ? tail : head + 2 * size - 1;
                head = head < 0 ? made : head;
            }
            for (int j = 0; j < 6; j++) {
                ask(6 + random.nextInt(3), anyThing(), anyThing(), 0);
            }
            ask(7, head, head, 0);
        }
        while (calls < CALLS - 20) {
            int t = anyThing();
            if (random.nextInt(3) == 0) {
                hang(t, 0, anyThing());
            } else {
                ask(new int[] {6, 7, 8, 11}[random.nextInt(4)], t, anyThing(), 0);
            }
        }
    }

    private int wildInt() {
        int[] wild = {Integer.MIN_VALUE, Integer.MIN_VALUE + 1, -2, -1, 0, 1, 2, 8, 9, 499, 500, 501, 1999, 2000,
            oracle.count() - 1, oracle.count(), Integer.MAX_VALUE - 1, Integer.MAX_VALUE};
        return wild[random.nextInt(wild.length)];
    }

    // Arguments that are mostly wrong: the machine itself may not throw, nor anything change.
    private void wildArguments() {
        while (calls < CALLS - 130) {
            int t = random.nextBoolean() ? anyThing() : wildInt();
            int choice = random.nextInt(10);
            if (choice == 0) {
                token(wildInt(), random.nextBoolean());
            } else if (choice == 1) {
                make(random.nextBoolean() ? random.nextInt(7) : wildInt(), wildInt());
            } else if (choice == 2) {
                put(t, wildInt(), random.nextLong());
            } else if (choice <= 4) {
                hang(t, random.nextBoolean() ? anyPlace(t) : wildInt(), random.nextBoolean() ? anyThing() : wildInt());
            } else if (choice == 5 && oracle.count() < 100) {
                copy(t, wildInt());
            } else {
                ask(random.nextInt(13), t, random.nextBoolean() ? anyThing() : wildInt(), wildInt());
            }
        }
        fullLook();
    }
}
