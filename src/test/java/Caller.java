/** Takes calls that are told by their names. */
interface Caller {
    long call(String name, int... a);
}
