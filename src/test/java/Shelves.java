/** Shelves that more than one test begins with, made in few of their 512 calls. */
final class Shelves {
    private Shelves() {
    }

    /** Things 0 to 8, thing k of KIND k, rows with two places, tokens with values 70 and 80. */
    static NestShelf oneOfEach() {
        NestShelf x = new NestShelf();
        for (int kind = 0; kind <= 6; kind++) {
            Due.is("make(" + kind + ", 2)", x.make(kind, 2), kind);
        }
        Due.is("token(70, false)", x.token(70, false), 7);
        Due.is("token(80, true)", x.token(80, true), 8);
        return x;
    }

    /** As oneOfEach, with numbers in thing 0 to 2 and something hanging in place 0 of 3 to 7. */
    static NestShelf filled() {
        NestShelf x = oneOfEach();
        for (int row = 0; row <= 2; row++) {
            x.put(row, 0, 10 + row);
            x.put(row, 1, 20 + row);
        }
        x.hang(3, 0, 0);
        x.hang(4, 0, 7);
        x.hang(5, 0, 6);
        x.hang(6, 0, 8);
        x.hang(7, 0, 1);
        return x;
    }

    /** A row of 99 tokens (thing 0) and deep copies of it, and plain tokens for the rest. */
    static NestShelf withThings(int wanted) {
        NestShelf x = new NestShelf();
        x.make(4, 99);
        for (int i = 0; i < 99; i++) {
            x.hang(0, i, x.token(i, true));
        }
        int made = 100;
        while (made + 100 <= wanted) {
            Due.is("copy(0, 1)", x.copy(0, 1), made);
            made += 100;
        }
        while (made < wanted) {
            x.token(0, false);
            made++;
        }
        Due.is("count()", x.count(), wanted);
        return x;
    }

    /** A chain of plain tokens 0, 1, .. n - 1, each hanging in the one before; n is 25 times a power of 2. */
    static NestShelf chain(int n) {
        NestShelf x = new NestShelf();
        x.token(1, false);
        for (int k = 1; k < 25; k++) {
            x.hang(k - 1, 0, x.token(1, false));
        }
        for (int size = 25; size < n; size *= 2) {
            Due.is("copy(0, 1) of a chain", x.copy(0, 1), size);
            x.hang(size - 1, 0, size);
        }
        return x;
    }

    /** A chain as long as the shelf: five chains of 400, the longest that can be copied. */
    static NestShelf longestChain() {
        NestShelf x = chain(400);
        for (int from = 400; from < 2000; from += 400) {
            Due.is("copy(0, 1) of a chain of 400", x.copy(0, 1), from);
        }
        for (int from = 400; from < 2000; from += 400) {
            Due.is("hang in the end of a chain", x.hang(from - 1, 0, from), 0);
        }
        return x;
    }
}
