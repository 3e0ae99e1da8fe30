/** Promise 5: forget. */
public final class Promise05Test {
    public static void main(String[] args) {
        Check.all(Promise05Test.class);
    }

    @Says("The batch and the value at hand are empty.")
    static void theBatchIsEmpty() {
        Run x = new Run().setTo(5, 1, 9);
        x.drop(6);
        x.forget();
        x.about(7).due(0);
        x.commit().due(0);
        x.dueNone(5);
        x.dueBlock(1, Image.fresh());
        x.set(7).due(1);
    }

    @Says("The batch and the value at hand are empty.")
    static void theValueIsEmpty() {
        Run x = new Run().fill(40, 1);
        x.forget();
        x.about(8).due(0);
        x.put(2, 0x0807).due(2);
        x.set(5);
        x.commit();
        x.dueValue(5, 7, 8);
    }

    @Says("The batch and the value at hand are empty.")
    static void whatIsEmptyCanBeForgotten() {
        Run x = new Run();
        x.forget();
        x.forget();
        x.dueAbout(0, 1, 0, 0, 0, 0, 0, 0, 0);
    }

    @Says("The batch and the value at hand are empty.")
    static void aFullBatchMakesRoom() {
        Run x = new Run().drops(8);
        x.drop(5).due(Answer.UNSUPPORTED);
        x.forget();
        x.drop(5).due(1);
    }

    @Says("The batch and the value at hand are empty.")
    static void nothingElseIsForgotten() {
        Run x = new Run().setTo(5, 1, 9);
        x.commit();
        x.forget();
        x.dueAbout(0, 1, 1, 1, 1, 1, 0, 0, 0);
        x.dueValue(5, 9);
    }
}
