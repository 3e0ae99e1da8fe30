import java.util.function.IntSupplier;
import java.util.function.Supplier;

/** An object under test. Its calls are counted: behind the 512th the document promises nothing. */
final class Run {
    static final int MOST_CALLS = 512;

    private final BlockLog log = new BlockLog();
    private int calls = 0;

    /** An object whose disk was spoilt to be so. */
    static Run of(Image image) {
        Run x = new Run();
        Image fresh = Image.fresh();
        for (int at = 0; at < Image.BYTES; at++) {
            if (image.at(at) != fresh.at(at)) {
                x.spoil(at, image.at(at));
            }
        }
        return x;
    }

    /** Looks at every byte of a disk, on as many objects, all made alike, as it takes to stay within their calls. */
    static void dueWholeDisk(Supplier<Run> made, Image want) {
        Run x = made.get();
        for (int k = 0; k < Image.BYTES; k++) {
            if (x.callsLeft() == 0) {
                x = made.get();
            }
            x.disk(k).due(want.at(k));
        }
    }

    int callsLeft() {
        return MOST_CALLS - calls;
    }

    Answer put(int many, int v) {
        return call("put(" + many + ", " + v + ")", () -> log.put(many, v));
    }

    Answer set(int key) {
        return call("set(" + key + ")", () -> log.set(key));
    }

    Answer drop(int key) {
        return call("drop(" + key + ")", () -> log.drop(key));
    }

    Answer forget() {
        return call("forget()", () -> done(log::forget));
    }

    Answer commit() {
        return call("commit()", log::commit);
    }

    Answer crash(int blocks, int bytes) {
        return call("crash(" + blocks + ", " + bytes + ")", () -> log.crash(blocks, bytes));
    }

    Answer spoil(int at, int v) {
        return call("spoil(" + at + ", " + v + ")", () -> done(() -> log.spoil(at, v)));
    }

    Answer size(int key) {
        return call("size(" + key + ")", () -> log.size(key));
    }

    Answer get(int key, int k) {
        return call("get(" + key + ", " + k + ")", () -> log.get(key, k));
    }

    Answer disk(int k) {
        return call("disk(" + k + ")", () -> log.disk(k));
    }

    Answer about(int what) {
        return call("about(" + what + ")", () -> log.about(what));
    }

    private Answer call(String text, IntSupplier made) {
        calls++;
        if (calls > MOST_CALLS) {
            Check.report(text + " is a call behind the 512th");
        }
        return new Answer("call " + calls + ", " + text, Check.answerOf(made));
    }

    private static int done(Runnable call) {
        call.run();
        return 0;
    }

    /** The value at hand gets so many bytes more: first, first + 1, .. */
    Run fill(int many, int first) {
        for (int i = 0; i < many; i += 4) {
            int b = first + i;
            put(Math.min(4, many - i), b & 255 | (b + 1 & 255) << 8 | (b + 2 & 255) << 16 | (b + 3 & 255) << 24);
        }
        return this;
    }

    Run setTo(int key, int many, int first) {
        fill(many, first).set(key);
        return this;
    }

    /** The batch gets so many changes, all of them drops of a key that no test sets. */
    Run drops(int many) {
        for (int i = 0; i < many; i++) {
            drop(199);
        }
        return this;
    }

    /** The batch becomes an entry of so many bytes, 3 .. 43 with one value or 45 .. 85 with two. */
    Run batchOfBytes(int key, int bytes) {
        int first = Math.min(bytes - 3, 40);
        setTo(key, first, 1);
        if (bytes > first + 3) {
            setTo(key + 1, bytes - first - 5, 1);
        }
        return this;
    }

    /** Commits of one block each, none of which leaves a value, until the log has so many blocks. */
    Run logOf(int blocks) {
        for (int i = about(2).number(); i < blocks; i++) {
            drops(1).commit();
        }
        return this;
    }

    /** Another byte in a block whose sum stays right. */
    void spoilSummed(int block, int place, int v) {
        int was = disk(32 * block + place).number();
        int sum = disk(32 * block + 3).number();
        spoil(32 * block + place, v);
        spoil(32 * block + 3, sum + (v - was) * (place + 1));
    }

    void dueAbout(int... want) {
        for (int what = 0; what < want.length; what++) {
            about(what).due(want[what]);
        }
    }

    void dueDisk(int from, int... want) {
        for (int i = 0; i < want.length; i++) {
            disk(from + i).due(want[i]);
        }
    }

    void dueBlock(int block, Image want) {
        for (int k = 32 * block; k < 32 * block + 32; k++) {
            disk(k).due(want.at(k));
        }
    }

    void dueValue(int key, int... want) {
        size(key).due(want.length);
        for (int k = 0; k < want.length; k++) {
            get(key, k).due(want[k]);
        }
    }

    void dueNone(int... keys) {
        for (int key : keys) {
            size(key).due(-1);
        }
    }
}
