/** One call, or some of them, on an object. */
interface Call {
    int on(ThinnedPots x);
}
