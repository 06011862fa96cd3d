/** One call on a shelf, with its arguments, kept to be made later. */
interface Call {
    long on(NestShelf shelf);
}
