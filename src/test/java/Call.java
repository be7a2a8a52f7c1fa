/** One call, with its arguments, that can be made on any object. */
interface Call {
    long on(House x);
}
