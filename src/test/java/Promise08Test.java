/** Promise 8: spoil. What the disk says then is in Term2LiveTest and Term2LogTest. */
public final class Promise08Test {
    public static void main(String[] args) {
        Check.all(Promise08Test.class);
    }

    @Says("A byte of the disk becomes another one")
    static void justOneByteChanges() {
        Image want = Image.fresh().with(100, 7);
        Run.dueWholeDisk(() -> Run.of(want), want);
    }

    @Says("A byte of the disk becomes another one")
    static void theLowestByteOfV() {
        Run x = new Run();
        int[] v = {0, 1, 127, 128, 255, 256, 0x1234, -1, -128, Integer.MIN_VALUE, Integer.MAX_VALUE};
        int[] want = {0, 1, 127, 128, 255, 0, 0x34, 255, 128, 0, 255};
        for (int i = 0; i < v.length; i++) {
            x.spoil(6143, v[i]);
            x.disk(6143).due(want[i]);
        }
    }

    @Says("A byte of the disk becomes another one")
    static void theSameByteOnceMore() {
        Run x = new Run().setTo(5, 1, 9);
        x.commit();
        x.spoil(32 + 3, x.disk(32 + 3).number());
        x.dueAbout(0, 1, 1, 1, 1, 1, 0);
        x.dueValue(5, 9);
    }

    @Says("and the disk is read anew")
    static void theDiskIsReadAnew() {
        Run x = new Run().setTo(5, 1, 9);
        x.commit();
        x.spoilSummed(1, 9, 8);
        x.dueValue(5, 8);
        x.spoilSummed(1, 7, 6);
        x.dueNone(5);
        x.dueValue(6, 8);
        x.spoil(2, 0);
        x.dueAbout(0, 0, 0, 0, 0, 1);
        x.dueNone(6);
        x.spoil(2, 72);
        x.dueAbout(0, 1, 1, 1, 1, 1);
        x.dueValue(6, 8);
    }

    @Says("batch and value stay")
    static void batchAndValueStay() {
        Run x = new Run().setTo(5, 1, 9).fill(3, 1);
        x.spoil(2, 0);
        x.spoil(6143, 1);
        x.about(7).due(1);
        x.about(8).due(3);
        x.set(6).due(2);
        x.commit().due(1);
        x.dueValue(5, 9);
        x.dueValue(6, 1, 2, 3);
    }

    @Says("A byte of the disk becomes another one (a fault of its own)")
    static void aSpoiltByteIsNoBlockWritten() {
        Run x = Run.of(Image.fresh().head(1, 2));
        x.dueAbout(1, 2, 0, 0, 0, 0, 0);
    }

    @Says("IndexOutOfBoundsException if there is no such byte")
    static void noSuchByte() {
        Run x = new Run();
        for (int at : new int[] {-1, 6144, Integer.MIN_VALUE, Integer.MAX_VALUE}) {
            x.spoil(at, 1).due(Answer.OUTSIDE);
        }
        x.spoil(0, 2);
        x.spoil(6143, 3);
        x.disk(0).due(2);
        x.disk(6143).due(3);
    }
}
