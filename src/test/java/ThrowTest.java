import java.util.function.Consumer;
import java.util.function.Supplier;

/** The sentence behind the terms. */
public final class ThrowTest {
    private static final String SAYS = "A call that throws changes nothing.";

    public static void main(String[] args) {
        Check.all(ThrowTest.class);
    }

    /** Key 5 has the value 9, the batch sets key 6, and the value at hand has 3 bytes. */
    private static Run ready() {
        Run x = new Run().setTo(5, 1, 9);
        x.commit();
        return x.setTo(6, 1, 8).fill(3, 1);
    }

    private static Run withFullBatch() {
        Run x = new Run().setTo(5, 1, 9);
        x.commit();
        return x.setTo(6, 1, 8).drops(7).fill(3, 1);
    }

    /** The calls, all of which throw, leave the object as it would be without them. */
    private static void dueNoChange(Supplier<Run> made, Consumer<Run> calls) {
        Supplier<Run> both = () -> {
            Run x = made.get();
            calls.accept(x);
            return x;
        };
        Run.dueWholeDisk(both, Image.fresh().entry(0, 1, 1, 1, 5, 1, 9));
        Run x = both.get();
        int changes = made.get().about(7).number();
        x.dueAbout(0, 1, 1, 1, 1, 1, 0, changes, 3);
        for (int key = 0; key < 200; key++) {
            x.size(key).due(key == 5 ? 1 : -1);
        }
        // what the batch and the value at hand were shows when they are committed
        x.commit().due(1);
        x.dueDisk(64 + 6, changes, 6, 1, 8);
        x.set(7);
        x.commit().due(1);
        x.dueDisk(96 + 6, 1, 7, 3, 1, 2, 3, 0);
    }

    @Says(SAYS)
    static void put() {
        dueNoChange(ThrowTest::ready, x -> {
            x.put(0, 7).due(Answer.ILLEGAL);
            x.put(-1, 7).due(Answer.ILLEGAL);
            x.put(5, 7).due(Answer.ILLEGAL);
        });
    }

    @Says(SAYS)
    static void putOfBytesOfWhichSomeWouldFit() {
        Run x = new Run().fill(38, 1);
        x.put(3, 0x070707).due(Answer.UNSUPPORTED);
        x.put(4, 0x07070707).due(Answer.UNSUPPORTED);
        x.about(8).due(38);
        x.put(2, 0x0102).due(40);
        x.put(1, 7).due(Answer.UNSUPPORTED);
        x.about(8).due(40);
        x.set(1);
        x.commit();
        x.get(1, 37).due(38);
        x.get(1, 38).due(2);
        x.get(1, 39).due(1);
    }

    @Says(SAYS)
    static void setAndDropWithoutAKey() {
        dueNoChange(ThrowTest::ready, x -> {
            x.set(-1).due(Answer.ILLEGAL);
            x.set(200).due(Answer.ILLEGAL);
            x.drop(-1).due(Answer.ILLEGAL);
            x.drop(200).due(Answer.ILLEGAL);
        });
    }

    @Says(SAYS)
    static void setAndDropWithAFullBatch() {
        dueNoChange(ThrowTest::withFullBatch, x -> {
            x.set(6).due(Answer.UNSUPPORTED);
            x.drop(6).due(Answer.UNSUPPORTED);
            x.set(200).due(Answer.ILLEGAL);
            x.drop(200).due(Answer.ILLEGAL);
        });
    }

    @Says(SAYS)
    static void crashThatCannotBe() {
        dueNoChange(ThrowTest::ready, x -> {
            x.crash(-1, 0).due(Answer.ILLEGAL);
            x.crash(1, 32).due(Answer.ILLEGAL);
            x.crash(1, -1).due(Answer.ILLEGAL);
        });
    }

    @Says(SAYS)
    static void crashWithoutABatch() {
        Run x = new Run().fill(3, 1);
        x.crash(1, 1).due(Answer.UNSUPPORTED);
        x.dueAbout(0, 1, 0, 0, 0, 0, 0, 0, 3);
        x.dueBlock(1, Image.fresh());
        x.set(7);
        x.commit().due(1);
        x.dueValue(7, 1, 2, 3);
    }

    @Says(SAYS)
    static void commitAndCrashOfARefusedBatch() {
        Run x = Run.of(Image.fresh().head(0, 65535)).setTo(5, 1, 9);
        x.commit();
        x.logOf(95).setTo(6, 1, 8).fill(3, 1);
        x.commit().due(Answer.UNSUPPORTED);
        x.crash(1, 1).due(Answer.UNSUPPORTED);
        x.dueAbout(0, 65535, 95, 95, 1, 95, 0, 1, 3);
        x.dueValue(5, 9);
        x.dueNone(6);
        // with another head the batch goes to the disk, as it was
        x.spoil(0, 254);
        x.spoil(3, x.disk(3).number() - 1);
        x.dueAbout(0, 65534, 0, 0, 0, 95, 0, 1, 3);
        x.commit().due(1);
        x.dueValue(6, 8);
        x.set(7);
        x.commit().due(1);
        x.dueValue(7, 1, 2, 3);
    }

    @Says(SAYS)
    static void spoilOutsideTheDisk() {
        dueNoChange(ThrowTest::ready, x -> {
            x.spoil(-1, 7).due(Answer.OUTSIDE);
            x.spoil(6144, 7).due(Answer.OUTSIDE);
        });
    }

    @Says(SAYS)
    static void lookingAtWhatIsNotThere() {
        dueNoChange(ThrowTest::ready, x -> {
            x.size(200).due(Answer.ILLEGAL);
            x.get(200, 0).due(Answer.ILLEGAL);
            x.get(5, 1).due(Answer.NO_SUCH);
            x.get(6, 0).due(Answer.NO_SUCH);
            x.disk(6144).due(Answer.OUTSIDE);
            x.about(9).due(Answer.ILLEGAL);
        });
    }
}
