/** Promise 9: size. */
public final class Promise09Test {
    public static void main(String[] args) {
        Check.all(Promise09Test.class);
    }

    @Says("How many bytes a key's value has")
    static void from0To40Bytes() {
        for (int many = 0; many <= 40; many++) {
            Run x = new Run().setTo(5, many, 1);
            x.commit();
            x.size(5).due(many);
        }
    }

    @Says("How many bytes a key's value has")
    static void theLatestValueCounts() {
        Run x = new Run().setTo(5, 40, 1);
        x.commit();
        x.setTo(5, 0, 1).commit();
        x.size(5).due(0);
        x.setTo(5, 3, 1).commit();
        x.size(5).due(3);
    }

    @Says("NONE without one")
    static void aKeyWithoutAValue() {
        Run x = new Run();
        x.dueNone(0, 5, 199);
        x.setTo(5, 1, 1);
        x.dueNone(5);
        x.commit();
        x.dueNone(4, 6);
        x.drop(5);
        x.commit();
        x.dueNone(5);
    }

    @Says("IllegalArgumentException if there is no such key")
    static void noSuchKey() {
        Run x = new Run();
        for (int key : new int[] {-1, 200, 256, Integer.MIN_VALUE, Integer.MAX_VALUE}) {
            x.size(key).due(Answer.ILLEGAL);
        }
        x.size(0).due(-1);
        x.size(199).due(-1);
    }
}
