/** What a call answered. If it threw, the test has to ask for that before the next call. */
final class Answer {
    static final String ILLEGAL = "throws.IllegalArgumentException";
    static final String UNSUPPORTED = "throws.UnsupportedOperationException";
    static final String OUTSIDE = "throws.IndexOutOfBoundsException";
    static final String NO_SUCH = "throws.NoSuchElementException";
    private static Answer open = null;

    private final String call;
    private final String got;

    Answer(String call, String got) {
        noneIsOpen();
        this.call = call;
        this.got = got;
        if (got.startsWith("throws.")) {
            open = this;
        }
    }

    static void noneIsOpen() {
        if (open != null) {
            Check.report(open.call + " answered " + open.got + ", and no exception is due");
            open = null;
        }
    }

    void due(int want) {
        due(Integer.toString(want));
    }

    void due(String want) {
        open = open == this ? null : open;
        Check.due(call, got, want);
    }

    int number() {
        return got.startsWith("throws.") ? Integer.MIN_VALUE : Integer.parseInt(got);
    }
}
