/** Promise 3: set. */
public final class Promise03Test {
    public static void main(String[] args) {
        Check.all(Promise03Test.class);
    }

    @Says("The batch has one change more .. how many changes")
    static void oneToEightChanges() {
        Run x = new Run();
        for (int i = 1; i <= 8; i++) {
            x.set(5).due(i);
            x.about(7).due(i);
        }
    }

    @Says("the key gets the value at hand")
    static void theKeyGetsItWithTheCommit() {
        Run x = new Run().setTo(5, 2, 9);
        x.dueNone(5);
        x.commit();
        x.dueValue(5, 9, 10);
        x.setTo(5, 1, 7);
        x.dueValue(5, 9, 10);
        x.commit();
        x.dueValue(5, 7);
    }

    @Says("the key gets the value at hand, which is empty then")
    static void theValueAtHandIsEmptyThen() {
        Run x = new Run().fill(3, 1);
        x.set(5);
        x.about(8).due(0);
        x.set(6);
        x.put(1, 7).due(1);
        x.set(7);
        x.commit();
        x.dueValue(5, 1, 2, 3);
        x.dueValue(6);
        x.dueValue(7, 7);
    }

    @Says("IllegalArgumentException if there is no such key")
    static void noSuchKey() {
        Run x = new Run().fill(3, 1);
        for (int key : new int[] {-1, 200, 256, Integer.MIN_VALUE, Integer.MAX_VALUE}) {
            x.set(key).due(Answer.ILLEGAL);
        }
        x.dueAbout(0, 1, 0, 0, 0, 0, 0, 0, 3);
        x.set(0).due(1);
        x.set(199).due(2);
    }

    @Says("UnsupportedOperationException if there are 8")
    static void aNinthChange() {
        Run x = new Run();
        for (int key = 0; key < 8; key++) {
            x.set(key).due(key + 1);
        }
        x.fill(3, 1);
        x.set(8).due(Answer.UNSUPPORTED);
        x.set(0).due(Answer.UNSUPPORTED);
        x.set(200).due(Answer.ILLEGAL);
        x.dueAbout(0, 1, 0, 0, 0, 0, 0, 8, 3);
        x.commit().due(1);
        x.set(8).due(1);
        x.commit();
        x.dueValue(8, 1, 2, 3);
        x.dueValue(0);
    }
}
