/** Promise 11: disk. */
public final class Promise11Test {
    public static void main(String[] args) {
        Check.all(Promise11Test.class);
    }

    @Says("Byte k of the disk, 0 .. 255.")
    static void allBytesThereAre() {
        Run x = new Run();
        for (int b = 0; b < 256; b++) {
            x.spoil(5000, b);
            x.disk(5000).due(b);
        }
    }

    @Says("Byte k of the disk, 0 .. 255.")
    static void theFirstAndTheLastByte() {
        Run x = new Run();
        x.disk(0).due(1);
        x.disk(6143).due(0);
        x.spoil(0, 255);
        x.spoil(6143, 254);
        x.disk(0).due(255);
        x.disk(6143).due(254);
    }

    @Says("IndexOutOfBoundsException if it isn't there")
    static void noSuchByte() {
        Run x = new Run();
        for (int k : new int[] {-1, 6144, 65536, Integer.MIN_VALUE, Integer.MAX_VALUE}) {
            x.disk(k).due(Answer.OUTSIDE);
        }
    }
}
