/** Term 1: keys, values, batches. */
public final class Term1Test {
    public static void main(String[] args) {
        Check.all(Term1Test.class);
    }

    @Says("KEYS are 0 .. 199.")
    static void theFirstAndTheLastKey() {
        for (int key : new int[] {0, 199}) {
            Run x = new Run();
            x.put(1, 5);
            x.set(key).due(1);
            x.commit();
            x.dueValue(key, 5);
            x.drop(key).due(1);
            x.commit();
            x.dueNone(key);
        }
    }

    @Says("KEYS are 0 .. 199.")
    static void noKeyBelow0OrAbove199() {
        Run x = new Run();
        for (int key : new int[] {-1, 200, 255, 256, Integer.MIN_VALUE, Integer.MAX_VALUE}) {
            x.set(key).due(Answer.ILLEGAL);
            x.drop(key).due(Answer.ILLEGAL);
            x.size(key).due(Answer.ILLEGAL);
            x.get(key, 0).due(Answer.ILLEGAL);
        }
    }

    @Says("KEYS are 0 .. 199.")
    static void allKeysCanHaveAValueAtOnce() {
        Run x = new Run();
        for (int key = 0; key < 200; key++) {
            x.set(key).due(key % 8 + 1);
            if (key % 8 == 7) {
                x.commit().due(1);
            }
        }
        x.dueAbout(0, 1, 25, 25, 200);
        for (int key = 0; key < 200; key++) {
            x.size(key).due(0);
        }
    }

    @Says("A VALUE is 0 to 40 bytes.")
    static void aValueOfNoBytesIsAValue() {
        Run x = new Run();
        x.set(3);
        x.commit();
        x.size(3).due(0);
        x.about(4).due(1);
    }

    @Says("A VALUE is 0 to 40 bytes.")
    static void aValueOf40Bytes() {
        Run x = new Run();
        x.fill(36, 200);
        x.put(4, 0x04030201).due(40);
        x.set(3);
        x.commit();
        x.size(3).due(40);
        x.get(3, 0).due(200);
        x.get(3, 35).due(235);
        x.get(3, 39).due(4);
    }

    @Says("A VALUE is 0 to 40 bytes.")
    static void noValueOf41Bytes() {
        Run x = new Run();
        x.fill(40, 1);
        x.put(1, 41).due(Answer.UNSUPPORTED);
        x.set(3);
        x.commit();
        x.size(3).due(40);
    }

    @Says("A BATCH is up to 8 CHANGES")
    static void aBatchOf8Changes() {
        Run x = new Run();
        for (int key = 1; key <= 8; key++) {
            x.put(1, key);
            x.set(key).due(key);
        }
        x.commit().due(1);
        for (int key = 1; key <= 8; key++) {
            x.dueValue(key, key);
        }
    }

    @Says("A BATCH is up to 8 CHANGES")
    static void noBatchOf9Changes() {
        Run x = new Run();
        for (int i = 1; i <= 8; i++) {
            (i % 2 == 0 ? x.set(i) : x.drop(i)).due(i);
        }
        x.set(9).due(Answer.UNSUPPORTED);
        x.drop(9).due(Answer.UNSUPPORTED);
        x.about(7).due(8);
    }

    @Says("CHANGES, in order, each of which sets a key's value or drops the key")
    static void changesOfOneKeyComeInOrder() {
        Run x = new Run();
        x.put(1, 5);
        x.set(1);
        x.put(2, 7);
        x.set(1);
        x.put(1, 5);
        x.set(2);
        x.drop(2);
        x.drop(3);
        x.put(1, 8);
        x.set(3);
        x.commit();
        x.dueValue(1, 7, 0);
        x.dueNone(2);
        x.dueValue(3, 8);
        x.about(4).due(2);
    }

    @Says("it is committed whole or not at all")
    static void aCrashAnywhereInABatchLeavesAllOrNothing() {
        for (int blocks = 0; blocks <= 4; blocks++) {
            for (int bytes = 0; bytes < 32; bytes++) {
                Run x = ready(1);
                dueAllOrNothing(x, x.crash(blocks, bytes).number(), blocks >= 3 || blocks == 2 && bytes == 31);
            }
        }
    }

    @Says("it is committed whole or not at all")
    static void aCrashAnywhereWhileAnewLeavesAllOrNothing() {
        // one block of the two values, the head, and the batch's three blocks
        for (int blocks = 0; blocks <= 6; blocks++) {
            for (int bytes = 0; bytes < 32; bytes++) {
                Run x = ready(93);
                dueAllOrNothing(x, x.crash(blocks, bytes).number(), blocks >= 5 || blocks == 4 && bytes == 31);
            }
        }
    }

    /** Keys 1 and 2 have a value, and a batch of 77 bytes, 26, 26 and 25, changes them and key 3. */
    private static Run ready(int logBlocks) {
        Run x = new Run();
        x.setTo(1, 1, 11).setTo(2, 2, 22).commit();
        x.logOf(logBlocks);
        x.setTo(1, 30, 100).drop(2);
        return x.setTo(3, 40, 50);
    }

    private static void dueAllOrNothing(Run x, int answer, boolean all) {
        Check.due("crash()", answer, all ? 1 : 0);
        if (all) {
            x.size(1).due(30);
            x.get(1, 29).due(129);
            x.dueNone(2);
            x.size(3).due(40);
            x.get(3, 39).due(89);
        } else {
            x.dueValue(1, 11);
            x.dueValue(2, 22, 23);
            x.dueNone(3);
        }
    }
}
