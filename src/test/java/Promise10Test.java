/** Promise 10: get. */
public final class Promise10Test {
    public static void main(String[] args) {
        Check.all(Promise10Test.class);
    }

    @Says("Byte k of a key's value, 0 .. 255.")
    static void allBytesThereAre() {
        for (int from = 0; from < 256; from += 32) {
            Run x = new Run().setTo(5, 32, from);
            x.commit();
            for (int k = 0; k < 32; k++) {
                x.get(5, k).due(from + k);
            }
        }
    }

    @Says("Byte k of a key's value, 0 .. 255.")
    static void theLastByteOfTheLongestValue() {
        Run x = new Run().setTo(0, 40, 100).setTo(199, 40, 160);
        x.commit();
        x.get(0, 39).due(139);
        x.get(199, 0).due(160);
        x.get(199, 39).due(199);
    }

    @Says("IllegalArgumentException if there is no such key")
    static void noSuchKey() {
        Run x = new Run();
        for (int key : new int[] {-1, 200, 256, Integer.MIN_VALUE, Integer.MAX_VALUE}) {
            x.get(key, 0).due(Answer.ILLEGAL);
            x.get(key, -1).due(Answer.ILLEGAL);
            x.get(key, 40).due(Answer.ILLEGAL);
        }
        x.get(0, 0).due(Answer.NO_SUCH);
        x.get(199, 0).due(Answer.NO_SUCH);
    }

    @Says("NoSuchElementException if it has no value")
    static void noValue() {
        Run x = new Run();
        for (int k : new int[] {0, -1, 1, 39, 40, Integer.MIN_VALUE, Integer.MAX_VALUE}) {
            x.get(5, k).due(Answer.NO_SUCH);
        }
        x.setTo(5, 1, 9);
        x.get(5, 0).due(Answer.NO_SUCH);
        x.commit();
        x.get(5, 0).due(9);
        x.drop(5);
        x.commit();
        x.get(5, 0).due(Answer.NO_SUCH);
    }

    @Says("NoSuchElementException if it has .. no such byte")
    static void noSuchByte() {
        Run x = new Run().setTo(5, 3, 1).setTo(6, 0, 0).setTo(7, 40, 1);
        x.commit();
        for (int k : new int[] {-1, 3, 4, 39, 40, Integer.MIN_VALUE, Integer.MAX_VALUE}) {
            x.get(5, k).due(Answer.NO_SUCH);
        }
        x.get(5, 2).due(3);
        x.get(6, 0).due(Answer.NO_SUCH);
        x.get(6, -1).due(Answer.NO_SUCH);
        x.get(7, 40).due(Answer.NO_SUCH);
        x.get(7, 41).due(Answer.NO_SUCH);
        // a shorter value hides the longer one before it
        x.setTo(7, 2, 9).commit();
        x.get(7, 1).due(10);
        x.get(7, 2).due(Answer.NO_SUCH);
    }
}
