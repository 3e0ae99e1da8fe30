/** Promise 2: put. */
public final class Promise02Test {
    public static void main(String[] args) {
        Check.all(Promise02Test.class);
    }

    @Says("So many bytes more (1 .. 4) for the value at hand .. how many it has")
    static void oneToFourBytesMore() {
        Run x = new Run();
        x.put(1, 9).due(1);
        x.put(2, 9).due(3);
        x.put(3, 9).due(6);
        x.put(4, 9).due(10);
        x.about(8).due(10);
    }

    @Says("the lowest byte of v first")
    static void theLowestByteComesFirst() {
        Run x = new Run();
        x.put(4, 0x04030201);
        x.put(3, 0x77070605);
        x.put(2, 0x77770908);
        x.put(1, 0x7777770A);
        x.set(5);
        x.commit();
        x.dueValue(5, 1, 2, 3, 4, 5, 6, 7, 8, 9, 10);
    }

    @Says("the lowest byte of v first")
    static void bytesOfNegativeAndGreatNumbers() {
        Run x = new Run();
        x.put(4, -1);
        x.put(4, Integer.MIN_VALUE);
        x.put(4, Integer.MAX_VALUE);
        x.put(2, -2);
        x.put(1, 256);
        x.put(1, 255);
        x.put(1, 128);
        x.set(5);
        x.commit();
        x.dueValue(5, 255, 255, 255, 255, 0, 0, 0, 128, 255, 255, 255, 127, 254, 255, 0, 255, 128);
    }

    @Says("IllegalArgumentException if many is not 1 .. 4")
    static void manyBelow1OrAbove4() {
        Run x = new Run();
        for (int many : new int[] {0, -1, 5, 40, 256 + 1, Integer.MIN_VALUE, Integer.MAX_VALUE}) {
            x.put(many, 1).due(Answer.ILLEGAL);
        }
        x.about(8).due(0);
    }

    @Says("IllegalArgumentException if many is not 1 .. 4")
    static void manyBelow1OrAbove4WithAFullValue() {
        Run x = new Run().fill(40, 1);
        for (int many : new int[] {0, -1, 5, Integer.MIN_VALUE, Integer.MAX_VALUE}) {
            x.put(many, 1).due(Answer.ILLEGAL);
        }
    }

    @Says("UnsupportedOperationException if there would be more than 40")
    static void upTo40AndNoMore() {
        for (int many = 1; many <= 4; many++) {
            Run x = new Run().fill(40 - many, 1);
            x.put(many, 7).due(40);
            Run y = new Run().fill(41 - many, 1);
            y.put(many, 7).due(Answer.UNSUPPORTED);
            y.about(8).due(41 - many);
        }
    }

    @Says("UnsupportedOperationException if there would be more than 40")
    static void aFullValueThatIsSetOrForgottenMakesRoom() {
        Run x = new Run().fill(40, 1);
        x.put(1, 1).due(Answer.UNSUPPORTED);
        x.set(5);
        x.put(4, 1).due(4);
        x.fill(36, 1).forget();
        x.put(4, 1).due(4);
    }
}
