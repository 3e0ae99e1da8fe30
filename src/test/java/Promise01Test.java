/** Promise 1: a new object. */
public final class Promise01Test {
    public static void main(String[] args) {
        Check.all(Promise01Test.class);
    }

    @Says("An empty log, an empty value and batch.")
    static void allIsEmpty() {
        Run x = new Run();
        x.dueAbout(0, 1, 0, 0, 0, 0, 0, 0, 0);
        for (int key = 0; key < 200; key++) {
            x.size(key).due(-1);
            x.get(key, 0).due(Answer.NO_SUCH);
        }
    }

    @Says("An empty log, an empty value and batch.")
    static void theBatchIsEmpty() {
        Run x = new Run();
        x.crash(0, 0).due(Answer.UNSUPPORTED);
        x.commit().due(0);
        x.drop(5).due(1);
    }

    @Says("An empty log, an empty value and batch.")
    static void theValueIsEmpty() {
        new Run().put(1, 7).due(1);
        Run x = new Run();
        x.set(5).due(1);
        x.commit().due(1);
        x.size(5).due(0);
    }

    @Says("An empty log, an empty value and batch.")
    static void objectsHaveNothingInCommon() {
        Run x = new Run().setTo(5, 1, 9);
        x.commit();
        x.setTo(6, 1, 8).fill(2, 1);
        Run y = new Run();
        y.dueAbout(0, 1, 0, 0, 0, 0, 0, 0, 0);
        y.dueNone(5);
        y.dueBlock(1, Image.fresh());
        y.setTo(7, 1, 7).commit();
        x.dueAbout(0, 1, 1, 1, 1, 1, 0, 1, 2);
    }
}
