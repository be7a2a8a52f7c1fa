/** A run of calls that brings a new object to a state; it can be run again on another. */
interface Scene {
    void build(House x);
}
