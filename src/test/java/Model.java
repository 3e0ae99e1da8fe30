import java.util.ArrayList;
import java.util.Arrays;
import java.util.List;
import java.util.NoSuchElementException;
import java.util.TreeMap;

/** The document's words once more, as plainly as can be, with the whole Java library: what BlockLog is held against. */
final class Model {
    /** A change of a batch; the value is null if the key is dropped. */
    private record Change(int key, byte[] value) {
    }

    private record Write(int block, byte[] bytes, boolean head) {
    }

    private final byte[][] disk = new byte[192][32];
    private List<Change> batch = new ArrayList<>();
    private List<Byte> value = new ArrayList<>();
    private int written = 0;
    private int anew = 0;

    private int half;
    private int epoch;
    private int logBlocks;
    private int logEntries;
    private TreeMap<Integer, byte[]> values;

    /** What happened in this model, for a test that wants to know whether its runs reach it. */
    boolean noHeadCounts;
    boolean badEntryMet;
    boolean refusedForSpace;
    boolean refusedForEpoch;
    boolean wroteAnew;
    int planned;

    Model() {
        disk[0] = head(1);
        recover();
    }

    int put(int many, int v) {
        if (many < 1 || many > 4) {
            throw new IllegalArgumentException();
        }
        if (value.size() + many > 40) {
            throw new UnsupportedOperationException();
        }
        for (int i = 0; i < many; i++) {
            value.add((byte) (v >> 8 * i));
        }
        return value.size();
    }

    int set(int key) {
        byte[] bytes = new byte[value.size()];
        for (int i = 0; i < bytes.length; i++) {
            bytes[i] = value.get(i);
        }
        int changes = change(new Change(key, bytes));
        value = new ArrayList<>();
        return changes;
    }

    int drop(int key) {
        return change(new Change(key, null));
    }

    private int change(Change c) {
        needKey(c.key());
        if (batch.size() == 8) {
            throw new UnsupportedOperationException();
        }
        batch.add(c);
        return batch.size();
    }

    void forget() {
        batch = new ArrayList<>();
        value = new ArrayList<>();
    }

    int commit() {
        if (batch.isEmpty()) {
            return 0;
        }
        List<Write> writes = plan();
        for (Write w : writes) {
            disk[w.block()] = w.bytes().clone();
            written++;
            anew += w.head() ? 1 : 0;
        }
        batch = new ArrayList<>();
        recover();
        return writes.size();
    }

    int crash(int blocks, int bytes) {
        if (blocks < 0 || bytes < 0 || bytes > 31) {
            throw new IllegalArgumentException();
        }
        if (batch.isEmpty()) {
            throw new UnsupportedOperationException();
        }
        List<Write> writes = plan();
        for (int i = 0; i < writes.size() && i < blocks; i++) {
            disk[writes.get(i).block()] = writes.get(i).bytes().clone();
            written++;
            anew += writes.get(i).head() ? 1 : 0;
        }
        if (blocks < writes.size()) {
            Write torn = writes.get(blocks);
            System.arraycopy(torn.bytes(), 0, disk[torn.block()], 0, bytes);
        }
        forget();
        recover();
        return writes.stream().allMatch(w -> Arrays.equals(w.bytes(), disk[w.block()])) ? 1 : 0;
    }

    void spoil(int at, int v) {
        needByte(at);
        disk[at / 32][at % 32] = (byte) v;
        recover();
    }

    int size(int key) {
        needKey(key);
        return values.containsKey(key) ? values.get(key).length : -1;
    }

    int get(int key, int k) {
        needKey(key);
        if (!values.containsKey(key) || k < 0 || k >= values.get(key).length) {
            throw new NoSuchElementException();
        }
        return values.get(key)[k] & 255;
    }

    int disk(int k) {
        needByte(k);
        return disk[k / 32][k % 32] & 255;
    }

    int about(int what) {
        if (what < 0 || what > 8) {
            throw new IllegalArgumentException();
        }
        return new int[] {half, epoch, logBlocks, logEntries, values.size(), written, anew, batch.size(), value.size()}[what];
    }

    private static void needKey(int key) {
        if (key < 0 || key > 199) {
            throw new IllegalArgumentException();
        }
    }

    private static void needByte(int at) {
        if (at < 0 || at >= 6144) {
            throw new IndexOutOfBoundsException();
        }
    }

    private List<Write> plan() {
        List<Write> writes = new ArrayList<>();
        wroteAnew = false;
        int need = (bytesOf(batch).length + 25) / 26;
        if (logBlocks + need <= 95) {
            addEntry(writes, half, epoch, logBlocks + 1, batch);
            planned = writes.size();
            return writes;
        }
        int other = 1 - half;
        int greatest = epoch;
        for (int b = 0; b < 96; b++) {
            greatest = Math.max(greatest, pair(disk[96 * other + b], 0));
        }
        List<Change> all = new ArrayList<>();
        values.forEach((key, bytes) -> all.add(new Change(key, bytes)));
        int next = 1;
        for (int i = 0; i < all.size(); i += 8) {
            next = addEntry(writes, other, greatest + 1, next, all.subList(i, Math.min(i + 8, all.size())));
        }
        writes.add(new Write(96 * other, head(greatest + 1), true));
        next = addEntry(writes, other, greatest + 1, next, batch);
        refusedForSpace = next > 96;
        refusedForEpoch = greatest + 1 > 65535;
        if (refusedForSpace || refusedForEpoch) {
            throw new UnsupportedOperationException();
        }
        wroteAnew = true;
        planned = writes.size();
        return writes;
    }

    private static int addEntry(List<Write> writes, int half, int epoch, int first, List<Change> changes) {
        byte[] bytes = bytesOf(changes);
        int number = first;
        for (int from = 0; from < bytes.length; from += 26) {
            int many = Math.min(26, bytes.length - from);
            byte[] block = new byte[32];
            block[0] = (byte) epoch;
            block[1] = (byte) (epoch >> 8);
            block[2] = (byte) (many + (from == 0 ? 64 : 0) + (from + many == bytes.length ? 128 : 0));
            block[4] = (byte) number;
            block[5] = (byte) (number >> 8);
            System.arraycopy(bytes, from, block, 6, many);
            block[3] = (byte) sum(block);
            writes.add(new Write(96 * half + number, block, false));
            number++;
        }
        return number;
    }

    private static byte[] bytesOf(List<Change> changes) {
        byte[] all = {(byte) changes.size()};
        for (Change c : changes) {
            int many = c.value() == null ? 0 : c.value().length;
            int at = all.length;
            all = Arrays.copyOf(all, at + 2 + many);
            all[at] = (byte) c.key();
            all[at + 1] = (byte) (c.value() == null ? 255 : many);
            if (many > 0) {
                System.arraycopy(c.value(), 0, all, at + 2, many);
            }
        }
        return all;
    }

    private static byte[] head(int epoch) {
        byte[] block = new byte[32];
        block[0] = (byte) epoch;
        block[1] = (byte) (epoch >> 8);
        block[2] = 72;
        block[3] = (byte) sum(block);
        return block;
    }

    private static int sum(byte[] block) {
        int sum = 0;
        for (int i = 0; i < 32; i++) {
            sum += i == 3 ? 0 : (block[i] & 255) * (i + 1);
        }
        return sum % 256;
    }

    private static int pair(byte[] block, int at) {
        return (block[at] & 255) + 256 * (block[at + 1] & 255);
    }

    private boolean counts(int half) {
        byte[] block = disk[96 * half];
        return Arrays.equals(block, head(pair(block, 0)));
    }

    private void recover() {
        noHeadCounts = !counts(0) && !counts(1);
        badEntryMet = false;
        int epoch0 = counts(0) ? pair(disk[0], 0) : -1;
        int epoch1 = counts(1) ? pair(disk[96], 0) : -1;
        half = epoch1 > epoch0 ? 1 : 0;
        epoch = Math.max(0, Math.max(epoch0, epoch1));
        logBlocks = 0;
        logEntries = 0;
        values = new TreeMap<>();
        List<byte[]> parts = new ArrayList<>();
        for (int number = 1; number < 96; number++) {
            byte[] block = disk[96 * half + number];
            int many = block[2] & 63;
            boolean first = (block[2] & 64) != 0;
            if (pair(block, 0) != epoch || pair(block, 4) != number || many < 1 || many > 26
                    || (block[3] & 255) != sum(block) || first != parts.isEmpty()) {
                return;
            }
            parts.add(Arrays.copyOfRange(block, 6, 6 + many));
            if ((block[2] & 128) != 0) {
                List<Change> changes = changesOf(join(parts));
                if (changes == null) {
                    badEntryMet = true;
                    return;
                }
                for (Change c : changes) {
                    if (c.value() == null) {
                        values.remove(c.key());
                    } else {
                        values.put(c.key(), c.value());
                    }
                }
                logBlocks = number;
                logEntries++;
                parts.clear();
            }
        }
    }

    private static byte[] join(List<byte[]> parts) {
        byte[] all = {};
        for (byte[] part : parts) {
            int at = all.length;
            all = Arrays.copyOf(all, at + part.length);
            System.arraycopy(part, 0, all, at, part.length);
        }
        return all;
    }

    /** Null if the bytes are no entry's: so too if, written once more, they would be others. */
    private static List<Change> changesOf(byte[] bytes) {
        List<Change> changes = new ArrayList<>();
        int at = 1;
        while (at + 1 < bytes.length) {
            int key = bytes[at] & 255;
            int many = bytes[at + 1] & 255;
            at += 2;
            if (key > 199 || (many > 40 && many != 255)) {
                return null;
            }
            changes.add(new Change(key, many == 255 ? null : Arrays.copyOfRange(bytes, at, at + many)));
            at += many == 255 ? 0 : many;
        }
        return changes.size() >= 1 && changes.size() <= 8 && Arrays.equals(bytes, bytesOf(changes)) ? changes : null;
    }
}
