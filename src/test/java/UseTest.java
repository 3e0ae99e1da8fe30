/** The sentences before the terms, and that of the constant. */
public final class UseTest {
    public static void main(String[] args) {
        Check.all(UseTest.class);
    }

    @Says("An object is used for at most 512 calls after it has been made")
    static void the512thCallAnswersAsTheFirst() {
        for (int call = 0; call < 6; call++) {
            // 170 commits, of which the 96th makes the log anew: 95 values in 12 blocks, and a head
            Run x = used(511);
            switch (call) {
                case 0: x.about(5).due(170 + 12 + 1); break;
                case 1: x.size(169).due(1); break;
                case 2: x.get(169, 0).due(169); break;
                case 3: x.commit().due(0); break;
                case 4: x.put(4, 1).due(5); break;
                default: x.set(7).due(1); break;
            }
            Check.due("calls left", x.callsLeft(), 0);
        }
    }

    @Says("An object is used for at most 512 calls after it has been made")
    static void the512thCallCanBeACommit() {
        Run x = used(510);
        x.set(170);
        x.commit().due(1);
        Check.due("calls left", x.callsLeft(), 0);
    }

    /** Keys 0, 1, .. get their own number as a value, each in a commit of its own. */
    private static Run used(int calls) {
        Run x = new Run();
        for (int i = 0; i < calls; i++) {
            int key = i / 3;
            switch (i % 3) {
                case 0: x.put(1, key); break;
                case 1: x.set(key); break;
                default: x.commit(); break;
            }
        }
        return x;
    }

    @Says("NONE = -1: There is none.")
    static void noneIsMinus1() {
        Check.due("NONE", BlockLog.NONE, -1);
        new Run().size(0).due(BlockLog.NONE);
    }
}
