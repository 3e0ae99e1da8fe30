/** Term 2: which half is live. */
public final class Term2LiveTest {
    public static void main(String[] args) {
        Check.all(Term2LiveTest.class);
    }

    @Says("The LIVE half is that whose head counts")
    static void onlyHalf0Counts() {
        Run.of(Image.fresh()).dueAbout(0, 1);
        // half 1's epoch is greater, but its sum is wrong
        Run.of(Image.fresh().with(Image.UPPER, 9).with(Image.UPPER + 2, 72)).dueAbout(0, 1);
    }

    @Says("The LIVE half is that whose head counts")
    static void onlyHalf1Counts() {
        // half 0's epoch is greater, but it does not count
        Run.of(Image.fresh().head(0, 9).with(31, 1).head(1, 3)).dueAbout(1, 3);
        Run.of(Image.headless().head(1, 0)).dueAbout(1, 0);
    }

    @Says("if both do that of the greater epoch")
    static void bothCount() {
        Run.of(Image.fresh().head(0, 2).head(1, 3)).dueAbout(1, 3);
        Run.of(Image.fresh().head(0, 3).head(1, 2)).dueAbout(0, 3);
        Run.of(Image.fresh().head(0, 0).head(1, 1)).dueAbout(1, 1);
        Run.of(Image.fresh().head(0, 1).head(1, 0)).dueAbout(0, 1);
    }

    @Says("if both do that of the greater epoch")
    static void epochsAreComparedByBothBytes() {
        Run.of(Image.fresh().head(0, 255).head(1, 256)).dueAbout(1, 256);
        Run.of(Image.fresh().head(0, 256).head(1, 255)).dueAbout(0, 256);
        Run.of(Image.fresh().head(0, 32767).head(1, 32768)).dueAbout(1, 32768);
        Run.of(Image.fresh().head(0, 1).head(1, 65535)).dueAbout(1, 65535);
        Run.of(Image.fresh().head(0, 65535).head(1, 65534)).dueAbout(0, 65535);
    }

    @Says("(half 0, if they are alike)")
    static void epochsAreAlike() {
        for (int epoch : new int[] {0, 1, 256, 65535}) {
            Run.of(Image.fresh().head(0, epoch).head(1, epoch)).dueAbout(0, epoch);
        }
    }

    @Says("half 0 if none does (with epoch 0)")
    static void noneCounts() {
        Run.of(Image.headless()).dueAbout(0, 0, 0, 0, 0);
        Run.of(Image.fresh().head(0, 7).with(2, 0).head(1, 9).with(Image.UPPER + 2, 0)).dueAbout(0, 0, 0);
    }

    @Says("half 0 if none does (with epoch 0)")
    static void noneCountsAndBlocksOfEpoch0AreRead() {
        Image image = Image.headless().entry(0, 1, 0, 1, 5, 1, 9);
        Run x = Run.of(image);
        x.dueAbout(0, 0, 1, 1, 1);
        x.dueValue(5, 9);
        Run y = Run.of(Image.headless().entry(0, 1, 1, 1, 5, 1, 9));
        y.dueAbout(0, 0, 0, 0, 0);
        Run z = Run.of(Image.headless().entry(1, 1, 0, 1, 5, 1, 9));
        z.dueAbout(0, 0, 0, 0, 0);
    }

    @Says("half 0 if none does (with epoch 0)")
    static void noneCountsAndACommitIsOfEpoch0() {
        Run x = Run.of(Image.headless());
        x.setTo(5, 1, 9).commit().due(1);
        x.dueAbout(0, 0, 1, 1, 1, 1, 0);
        x.dueBlock(0, Image.headless());
        x.dueBlock(1, Image.headless().entry(0, 1, 0, 1, 5, 1, 9));
    }

    @Says("half 0 if none does (with epoch 0)")
    static void noneCountsAndTheLogIsMadeAnewWithEpoch1() {
        Run x = Run.of(Image.headless()).logOf(95);
        x.drops(1).commit().due(2);
        x.dueAbout(1, 1, 1, 1, 0, 97, 1);
    }

    @Says("Its LOG is read")
    static void theOtherHalfsLogIsNotRead() {
        Image image = Image.fresh().entry(0, 1, 1, 1, 5, 1, 9).head(1, 1).entry(1, 1, 1, 1, 6, 1, 8);
        Run x = Run.of(image);
        x.dueAbout(0, 1, 1, 1, 1);
        x.dueNone(6);
        Run y = Run.of(image.head(1, 2).entry(1, 1, 2, 1, 6, 1, 8));
        y.dueAbout(1, 2, 1, 1, 1);
        y.dueNone(5);
        y.dueValue(6, 8);
    }
}
