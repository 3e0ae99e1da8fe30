/** Promise 4: drop. */
public final class Promise04Test {
    public static void main(String[] args) {
        Check.all(Promise04Test.class);
    }

    @Says("The batch has one change more .. how many changes")
    static void oneToEightChanges() {
        Run x = new Run();
        for (int i = 1; i <= 8; i++) {
            x.drop(5).due(i);
            x.about(7).due(i);
        }
    }

    @Says("the key is dropped")
    static void theKeyIsDroppedWithTheCommit() {
        Run x = new Run().setTo(5, 2, 9).setTo(6, 0, 0);
        x.commit();
        x.drop(5).due(1);
        x.drop(6).due(2);
        x.dueValue(5, 9, 10);
        x.commit().due(1);
        x.dueNone(5, 6);
        x.about(4).due(0);
    }

    @Says("(if it has a value then)")
    static void aKeyWithoutAValueCanBeDropped() {
        Run x = new Run();
        x.drop(5).due(1);
        x.commit().due(1);
        x.dueNone(5);
        x.dueAbout(0, 1, 1, 1, 0);
        x.dueDisk(32 + 6, 1, 5, 255);
        x.drop(5).due(1);
        x.drop(5).due(2);
        x.commit().due(1);
        x.dueAbout(0, 1, 2, 2, 0);
    }

    @Says("The batch has one change more: the key is dropped")
    static void theValueAtHandStays() {
        Run x = new Run().fill(3, 1);
        x.drop(5);
        x.about(8).due(3);
        x.set(6).due(2);
        x.commit();
        x.dueValue(6, 1, 2, 3);
    }

    @Says("Exceptions as for set(). (IllegalArgumentException if there is no such key)")
    static void noSuchKey() {
        Run x = new Run();
        for (int key : new int[] {-1, 200, 256, Integer.MIN_VALUE, Integer.MAX_VALUE}) {
            x.drop(key).due(Answer.ILLEGAL);
        }
        x.about(7).due(0);
        x.drop(0).due(1);
        x.drop(199).due(2);
    }

    @Says("Exceptions as for set(). (UnsupportedOperationException if there are 8)")
    static void aNinthChange() {
        Run x = new Run().setTo(5, 1, 9);
        x.commit();
        x.drops(8);
        x.drop(5).due(Answer.UNSUPPORTED);
        x.drop(199).due(Answer.UNSUPPORTED);
        x.drop(200).due(Answer.ILLEGAL);
        x.about(7).due(8);
        x.commit().due(1);
        x.dueValue(5, 9);
        x.drop(5).due(1);
    }
}
