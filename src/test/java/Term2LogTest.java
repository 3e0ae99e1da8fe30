import java.util.Arrays;

/** Term 2: how far the live half's log goes. */
public final class Term2LogTest {
    /** Entries that give keys 5, 6 and 7 the values 9, 8 and 7. */
    private static final int[] FIVE = {1, 5, 1, 9};
    private static final int[] SIX = {1, 6, 1, 8};
    private static final int[] SEVEN = {1, 7, 1, 7};

    public static void main(String[] args) {
        Check.all(Term2LogTest.class);
    }

    /** Three entries of one block each. */
    private static Image three() {
        return Image.fresh().entry(0, 1, 1, FIVE).entry(0, 2, 1, SIX).entry(0, 3, 1, SEVEN);
    }

    /** The log is to end behind so many of the three. */
    private static void dueOfThree(Image image, int entries) {
        Run x = Run.of(image);
        x.dueAbout(0, 1, entries, entries, entries);
        x.size(5).due(entries > 0 ? 1 : -1);
        x.size(6).due(entries > 1 ? 1 : -1);
        x.size(7).due(entries > 2 ? 1 : -1);
    }

    @Says("Its LOG is read from block 1 on")
    static void entriesFromBlock1On() {
        dueOfThree(three(), 3);
        dueOfThree(Image.fresh().entry(0, 2, 1, SIX).entry(0, 3, 1, SEVEN), 0);
    }

    @Says("as long as blocks are RIGHT")
    static void aBlockThatIsNotRightEndsTheLog() {
        for (int number = 1; number <= 3; number++) {
            dueOfThree(three().with(32 * number + 3, three().at(32 * number + 3) ^ 1), number - 1);
        }
    }

    @Says("RIGHT: the half's epoch")
    static void aBlockOfAnotherEpoch() {
        for (int epoch : new int[] {0, 2, 257, 256, 65535}) {
            dueOfThree(three().entry(0, 1, epoch, FIVE), 0);
            dueOfThree(three().entry(0, 2, epoch, SIX), 1);
        }
    }

    @Says("RIGHT: .. the block's number")
    static void aBlockOfAnotherNumber() {
        for (int low : new int[] {0, 1, 3, 66, 98}) {
            dueOfThree(three().with(64 + 4, low).summed(2), 1);
        }
        dueOfThree(three().with(64 + 5, 1).summed(2), 1);
        dueOfThree(three().with(32 + 4, 0).summed(1), 0);
    }

    @Says("RIGHT: .. the block's number")
    static void aNumberIsThatInTheHalf() {
        Image image = Image.headless().head(1, 1).entry(1, 1, 1, FIVE);
        Run.of(image).dueAbout(1, 1, 1, 1);
        Run.of(image.with(Image.UPPER + 32 + 4, 97).summed(97)).dueAbout(1, 1, 0, 0);
    }

    @Says("RIGHT: .. a number of bytes that can be")
    static void aBlockOf0Or27OrMoreBytes() {
        for (int many : new int[] {0, 27, 28, 32, 32 + 4, 63}) {
            dueOfThree(three().with(64 + 2, Image.ONLY + many).summed(2), 1);
        }
        // an entry that would be whole with a last block of no bytes
        int[] whole = oneValue(8, 23);
        Image none = Image.fresh().block(0, 1, 1, Image.FIRST + 26, whole).block(0, 2, 1, Image.LAST);
        Run.of(none).dueAbout(0, 1, 0, 0);
        // .. and one that goes on in the bytes of the block behind it
        int[] long27 = oneValue(8, 24);
        Image more = Image.fresh().with(64, long27[26]);
        more.block(0, 1, 1, Image.ONLY + 27, Arrays.copyOf(long27, 26));
        Run.of(more).dueAbout(0, 1, 0, 0);
    }

    @Says("RIGHT: .. a number of bytes that can be")
    static void aBlockOf1Or26Bytes() {
        int[] data = oneValue(8, 23);
        Run.of(Image.fresh().block(0, 1, 1, Image.ONLY + 26, data)).dueAbout(0, 1, 1, 1);
        Image one = Image.fresh().block(0, 1, 1, Image.FIRST + 1, 1).block(0, 2, 1, 1, 8).block(0, 3, 1, Image.LAST + 1, 255);
        Run.of(one).dueAbout(0, 1, 3, 1);
    }

    @Says("RIGHT: .. the sum")
    static void aBlockWithAnotherSum() {
        int sum = three().at(64 + 3);
        for (int other : new int[] {sum - 1, sum + 1, sum ^ 128, 255 - sum}) {
            dueOfThree(three().with(64 + 3, other), 1);
        }
    }

    @Says("RIGHT: the half's epoch, the block's number, a number of bytes that can be, the sum")
    static void bytesBehindThoseThatCountAreNotAskedFor() {
        dueOfThree(three().with(64 + 31, 1), 1);
        dueOfThree(three().with(64 + 31, 1).summed(2), 3);
    }

    @Says("that it is an entry's first one just if it is block 1")
    static void block1IsNoFirstOne() {
        dueOfThree(three().with(32 + 2, Image.LAST + 4).summed(1), 0);
        Image image = Image.fresh().block(0, 1, 1, 26, oneValue(8, 24)).block(0, 2, 1, Image.LAST + 1, 24);
        Run.of(image).dueAbout(0, 1, 0, 0);
    }

    @Says("that it is an entry's first one just if .. the one before was a last one")
    static void aBlockBehindALastOneIsNoFirstOne() {
        dueOfThree(three().with(64 + 2, Image.LAST + 4).summed(2), 1);
    }

    @Says("that it is an entry's first one just if .. the one before was a last one")
    static void aFirstBlockWithinAnEntry() {
        // block 2 begins a whole entry, but that of block 1 has not ended
        dueOfThree(three().with(32 + 2, Image.FIRST + 4).summed(1), 0);
        dueOfThree(three().with(64 + 2, Image.FIRST + 4).summed(2), 1);
        Image image = Image.fresh().entry(0, 1, 1, oneValue(8, 24));
        Run.of(image).dueAbout(0, 1, 2, 1);
        Run.of(image.with(64 + 2, Image.ONLY + 1).summed(2)).dueAbout(0, 1, 0, 0);
    }

    @Says("The log ends behind the last entry that is whole by this")
    static void anEntryWithoutItsLastBlockIsNotInTheLog() {
        Image image = Image.fresh().entry(0, 1, 1, FIVE).entry(0, 2, 1, oneValue(8, 40)).entry(0, 4, 1, SIX);
        Run whole = Run.of(image);
        whole.dueAbout(0, 1, 4, 3, 3);
        Run x = Run.of(image.with(96 + 3, image.at(96 + 3) ^ 1));
        x.dueAbout(0, 1, 1, 1, 1);
        x.dueNone(6, 8);
        // the next entry goes in its place
        x.setTo(7, 1, 7).commit().due(1);
        x.dueBlock(2, Image.fresh().entry(0, 2, 1, SEVEN));
    }

    @Says("The log ends behind the last entry that is whole by this")
    static void anEntryThatTheHalfsEndCutsOff() {
        Run x = new Run().logOf(94);
        Image cut = new Image().block(0, 95, 1, Image.FIRST + 26, oneValue(8, 23));
        for (int at = 95 * 32; at < 96 * 32; at++) {
            if (cut.at(at) != 0) {
                x.spoil(at, cut.at(at));
            }
        }
        x.dueAbout(0, 1, 94, 94, 0);
        x.spoilSummed(95, 2, Image.ONLY + 26);
        x.dueAbout(0, 1, 95, 95, 1);
    }

    @Says("The log ends behind the last entry that is whole by this")
    static void oldEntriesBehindANewOneAreInTheLog() {
        Run x = Run.of(three().with(32 + 3, 0));
        x.dueAbout(0, 1, 0, 0, 0);
        x.setTo(8, 1, 1).commit().due(1);
        x.dueAbout(0, 1, 3, 3, 3, 1);
        x.dueNone(5);
        x.dueValue(6, 8);
        x.dueValue(8, 1);
    }

    @Says("(and of which the bytes are as in 3)")
    static void aNumberOfChangesBelow1OrAbove8() {
        dueGood(1, 5, 255);
        dueGood(8, 1, 255, 2, 255, 3, 255, 4, 255, 5, 255, 6, 255, 7, 255, 8, 255);
        dueBad(0);
        dueBad(0, 5, 255);
        dueBad(9, 1, 255, 2, 255, 3, 255, 4, 255, 5, 255, 6, 255, 7, 255, 8, 255, 9, 255);
        dueBad(255, 5, 255);
    }

    @Says("(and of which the bytes are as in 3)")
    static void aKeyAbove199() {
        dueGood(1, 0, 255);
        dueGood(1, 199, 255);
        dueBad(1, 200, 255);
        dueBad(1, 255, 255);
        dueBad(1, 200, 1, 9);
        dueBad(2, 5, 255, 200, 255);
    }

    @Says("(and of which the bytes are as in 3)")
    static void aValueOfMoreThan40Bytes() {
        dueGood(1, 5, 0);
        dueGood(oneValue(5, 40));
        dueBad(oneValue(5, 41));
        dueBad(oneValue(5, 254));
        dueBad(1, 5, 254);
        dueGood(1, 5, 255);
    }

    @Says("(and of which the bytes are as in 3)")
    static void bytesThatAreTooFew() {
        dueBad(1);
        dueBad(1, 5);
        dueBad(1, 5, 1);
        dueBad(1, 5, 2, 9);
        dueBad(2, 5, 255);
        dueBad(2, 5, 255, 6);
        dueBad(2, 5, 1, 9, 6, 1);
        dueGood(2, 5, 1, 9, 6, 0);
    }

    @Says("(and of which the bytes are as in 3)")
    static void bytesThatAreTooMany() {
        dueBad(1, 5, 255, 0);
        dueBad(1, 5, 0, 0);
        dueBad(1, 5, 1, 9, 9);
        dueBad(1, 5, 255, 6, 255);
        dueGood(2, 5, 255, 6, 255);
    }

    private static void dueGood(int... data) {
        Image image = Image.fresh().entry(0, 1, 1, FIVE).entry(0, 2, 1, data);
        int next = 2 + (data.length + 25) / 26;
        Run.of(image.entry(0, next, 1, SEVEN)).dueAbout(0, 1, next, 3);
    }

    /** The log is to end before it, even if a good entry is behind it. */
    private static void dueBad(int... data) {
        Image image = Image.fresh().entry(0, 1, 1, FIVE).entry(0, 2, 1, data);
        int next = 2 + (data.length + 25) / 26;
        Run x = Run.of(image.entry(0, next, 1, SEVEN));
        x.dueAbout(0, 1, 1, 1, 1);
        x.dueValue(5, 9);
        x.dueNone(6, 7);
    }

    /** An entry that gives a key the value 1, 2, .. of so many bytes. */
    private static int[] oneValue(int key, int many) {
        int[] data = new int[3 + many];
        data[0] = 1;
        data[1] = key;
        data[2] = many;
        for (int i = 0; i < many; i++) {
            data[3 + i] = i + 1;
        }
        return data;
    }
}
