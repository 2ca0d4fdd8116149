import java.util.function.ToIntFunction;

/** One call with its arguments, which can be made on more than one object. */
record Call(String text, ToIntFunction<Streams> act) {
    int on(Streams x) {
        return act.applyAsInt(x);
    }
}
