/** The example of README.md, each call with the answer that its comment tells. */
final class ReadmeTest {
    public static void main(String[] args) {
        NestShelf shelf = new NestShelf();
        int row = shelf.make(4, 2);
        Due.is("row", row, 0);
        int a = shelf.token(7, true);
        Due.is("a", a, 1);
        Due.is("hung", shelf.hang(row, 1, a), 0);
        Due.is("sum", shelf.weight(row), 7);
        int twin = shelf.copy(row, 1);
        Due.is("twin", twin, 2);
        Due.is("what hangs in the twin", shelf.below(twin, 1), 3);
        Due.is("same", shelf.equal(row, twin), 1);
        Due.is("sorted", shelf.sort(twin), 0);
        Due.is("first", shelf.below(twin, 0), 3);
        Due.is("none behind it", shelf.below(twin, 1), -1);
        Due.is("same, later", shelf.equal(row, twin), 0);
        Due.is("gone", shelf.depth(9), -1);
        Due.is("why", shelf.status(), 1);
        Due.end();
    }
}
