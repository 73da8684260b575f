/** An exchange whose calls are made by name, so that scripts and random runs can drive it. */
interface Party {
    /** A boolean counts 1 or 0, as an argument and as an answer. */
    long call(String name, int... args);
}
