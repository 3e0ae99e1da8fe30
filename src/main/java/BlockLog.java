import java.util.NoSuchElementException;

/**
 * Values under keys on a disk of blocks, of which the latest writes may be lost, and one be torn.
 * Nothing about the log is remembered beside the disk: after each change of the disk it is read anew.
 */
public final class BlockLog {
    public static final int NONE = -1;

    private static final int KEYS = 200;
    private static final int MOST_VALUE = 40;
    private static final int MOST_CHANGES = 8;
    private static final int MOST_PUT = 4;
    private static final int DROPPED = 255;
    private static final int MOST_ENTRY = 1 + MOST_CHANGES * (2 + MOST_VALUE);

    private static final int BLOCK_BYTES = 32;
    private static final int HALF_BLOCKS = 96;
    private static final int LOG_BLOCKS = HALF_BLOCKS - 1;
    private static final int DISK_BYTES = 2 * HALF_BLOCKS * BLOCK_BYTES;
    private static final int MOST_EPOCH = 65535;

    private static final int COUNT_PLACE = 2;
    private static final int SUM_PLACE = 3;
    private static final int NUMBER_PLACE = 4;
    private static final int DATA_PLACE = 6;
    private static final int BLOCK_DATA = BLOCK_BYTES - DATA_PLACE;
    private static final int HEAD_MARK = 72;
    private static final int FIRST_FLAG = 64;
    private static final int LAST_FLAG = 128;
    private static final int COUNT_MASK = 63;

    private final Disk theDisk = new Disk();
    private final Log log = new Log();
    private final Row value = new Row(MOST_VALUE);
    private final Entry batch = new Entry();
    private final Entry gathered = new Entry();
    private final Block block = new Block();
    private final Writer writer = new Writer();
    private int blocksWritten = 0;
    private int timesAnew = 0;

    public BlockLog() {
        block.makeHead(1);
        theDisk.overwrite(0, block, BLOCK_BYTES);
        log.read(theDisk);
    }

    public int put(int many, int v) throws IllegalArgumentException, UnsupportedOperationException {
        if (many < 1 || many > MOST_PUT) {
            throw new IllegalArgumentException("only 1 to 4 bytes can be put at once");
        }
        if (value.length() + many > MOST_VALUE) {
            throw new UnsupportedOperationException("a value has at most 40 bytes");
        }
        for (int i = 0; i < many; i++) {
            value.add(v >>> (8 * i));
        }
        return value.length();
    }

    public int set(int key) throws IllegalArgumentException, UnsupportedOperationException {
        if (!isKey(key)) {
            throw new IllegalArgumentException("there is no such key");
        }
        if (batch.isFull()) {
            throw new UnsupportedOperationException("a batch has at most 8 changes");
        }
        batch.addValue(key, value, 0, value.length());
        value.clear();
        return batch.changes();
    }

    public int drop(int key) throws IllegalArgumentException, UnsupportedOperationException {
        if (!isKey(key)) {
            throw new IllegalArgumentException("there is no such key");
        }
        if (batch.isFull()) {
            throw new UnsupportedOperationException("a batch has at most 8 changes");
        }
        batch.addDropped(key);
        return batch.changes();
    }

    public void forget() {
        batch.clear();
        value.clear();
    }

    public int commit() throws UnsupportedOperationException {
        if (batch.changes() == 0) {
            return 0;
        }
        if (isRefused()) {
            throw new UnsupportedOperationException("the batch is refused");
        }
        writer.begin(HALF_BLOCKS, 0);
        writeBatch();
        batch.clear();
        return writer.written();
    }

    public int crash(int blocks, int bytes) throws IllegalArgumentException, UnsupportedOperationException {
        if (blocks < 0 || bytes < 0 || bytes >= BLOCK_BYTES) {
            throw new IllegalArgumentException("there is no such crash");
        }
        if (batch.changes() == 0) {
            throw new UnsupportedOperationException("the batch is empty");
        }
        if (isRefused()) {
            throw new UnsupportedOperationException("the batch is refused");
        }
        writer.begin(blocks, bytes);
        writeBatch();
        batch.clear();
        value.clear();
        return writer.isAllAsMeant() ? 1 : 0;
    }

    public void spoil(int at, int v) throws IndexOutOfBoundsException {
        if (!theDisk.has(at)) {
            throw new IndexOutOfBoundsException("the disk has no such byte");
        }
        theDisk.change(at, v);
        log.read(theDisk);
    }

    public int size(int key) throws IllegalArgumentException {
        if (!isKey(key)) {
            throw new IllegalArgumentException("there is no such key");
        }
        return log.sizeOf(key);
    }

    public int get(int key, int k) throws IllegalArgumentException, java.util.NoSuchElementException {
        if (!isKey(key)) {
            throw new IllegalArgumentException("there is no such key");
        }
        // without a value the size is below 0, so that no k is in it
        if (k < 0 || k >= log.sizeOf(key)) {
            throw new NoSuchElementException("the key has no such byte");
        }
        return log.bytes().at(log.startOf(key) + k);
    }

    public int disk(int k) throws IndexOutOfBoundsException {
        if (!theDisk.has(k)) {
            throw new IndexOutOfBoundsException("the disk has no such byte");
        }
        return theDisk.byteAt(k);
    }

    public int about(int what) throws IllegalArgumentException {
        switch (what) {
            case 0: return log.half();
            case 1: return log.epoch();
            case 2: return log.blocks();
            case 3: return log.entries();
            case 4: return log.keys();
            case 5: return blocksWritten;
            case 6: return timesAnew;
            case 7: return batch.changes();
            case 8: return value.length();
            default: throw new IllegalArgumentException("nothing is told about this");
        }
    }

    private static boolean isKey(int key) {
        return key >= 0 && key < KEYS;
    }

    private boolean needsAnew() {
        return log.blocks() + batch.blocks() > LOG_BLOCKS;
    }

    private boolean isRefused() {
        if (!needsAnew()) {
            return false;
        }
        return blocksAnew() + batch.blocks() > LOG_BLOCKS || epochAnew() > MOST_EPOCH;
    }

    private int epochAnew() {
        return Math.max(theDisk.greatestEpoch(1 - log.half()), log.epoch()) + 1;
    }

    private int blocksAnew() {
        int blocks = 0;
        gathered.clear();
        for (int key = 0; key < KEYS; key++) {
            gather(key);
            if (gathered.isFull() || key == KEYS - 1) {
                blocks += gathered.blocks();
                gathered.clear();
            }
        }
        return blocks;
    }

    private void gather(int key) {
        int size = log.sizeOf(key);
        if (size != NONE) {
            gathered.addValue(key, log.bytes(), log.startOf(key), size);
        }
    }

    /** Only for a batch that is not refused, and behind writer.begin. */
    private void writeBatch() {
        int half = log.half();
        int epoch = log.epoch();
        int behind = log.blocks();
        if (needsAnew()) {
            epoch = epochAnew();
            half = 1 - half;
            behind = writeAnew(half, epoch);
        }
        writeEntry(batch, half, epoch, behind);
        blocksWritten += writer.written();
        log.read(theDisk);
    }

    private int writeAnew(int half, int epoch) {
        int behind = 0;
        gathered.clear();
        for (int key = 0; key < KEYS; key++) {
            gather(key);
            if (gathered.isFull() || key == KEYS - 1) {
                writeEntry(gathered, half, epoch, behind);
                behind += gathered.blocks();
                gathered.clear();
            }
        }
        block.makeHead(epoch);
        if (writer.write(theDisk, half * HALF_BLOCKS, block)) {
            timesAnew++;
        }
        return behind;
    }

    private void writeEntry(Entry entry, int half, int epoch, int behind) {
        int blocks = entry.blocks();
        for (int i = 0; i < blocks; i++) {
            int number = behind + 1 + i;
            block.makeLogBlock(epoch, number, entry.bytes(), i * BLOCK_DATA);
            writer.write(theDisk, half * HALF_BLOCKS + number, block);
        }
    }

    private static int sumOf(int[] bytes, int from) {
        if (from < 0 || from > bytes.length - BLOCK_BYTES) {
            return 0;
        }
        int sum = 0;
        for (int place = 0; place < BLOCK_BYTES; place++) {
            if (place != SUM_PLACE) {
                sum += bytes[from + place] * (place + 1);
            }
        }
        return sum & 255;
    }

    /** Bytes one behind the other, up to a bound: beyond it none is kept, and outside of them 0 is read. */
    private static final class Row {
        private final int[] cells;
        private int used = 0;

        Row(int most) {
            cells = new int[Math.max(most, 0)];
        }

        int length() {
            return used;
        }

        int at(int k) {
            return k >= 0 && k < used ? cells[k] : 0;
        }

        void clear() {
            used = 0;
        }

        void add(int b) {
            if (used >= 0 && used < cells.length) {
                cells[used] = b & 255;
                used++;
            }
        }

        void change(int k, int b) {
            if (k >= 0 && k < used) {
                cells[k] = b & 255;
            }
        }
    }

    /** A batch in the bytes in which it goes to the disk. */
    private static final class Entry {
        private final Row row = new Row(MOST_ENTRY);

        Entry() {
            row.add(0);
        }

        void clear() {
            row.clear();
            row.add(0);
        }

        Row bytes() {
            return row;
        }

        int changes() {
            return row.at(0);
        }

        boolean isFull() {
            return changes() >= MOST_CHANGES;
        }

        /** An entry without changes is never written: it takes no block. */
        int blocks() {
            return changes() == 0 ? 0 : (row.length() + BLOCK_DATA - 1) / BLOCK_DATA;
        }

        void addDropped(int key) {
            row.change(0, changes() + 1);
            row.add(key);
            row.add(DROPPED);
        }

        void addValue(int key, Row from, int start, int many) {
            row.change(0, changes() + 1);
            row.add(key);
            row.add(many);
            for (int i = 0; i < many; i++) {
                row.add(from.at(start + i));
            }
        }
    }

    /** A block as it is to be on the disk. */
    private static final class Block {
        private final int[] cells = new int[BLOCK_BYTES];

        int at(int place) {
            return place >= 0 && place < BLOCK_BYTES ? cells[place] : 0;
        }

        void makeHead(int epoch) {
            begin(epoch);
            cells[COUNT_PLACE] = HEAD_MARK;
            cells[SUM_PLACE] = sumOf(cells, 0);
        }

        void makeLogBlock(int epoch, int number, Row entry, int from) {
            int many = Math.min(entry.length() - from, BLOCK_DATA);
            begin(epoch);
            cells[COUNT_PLACE] = many
                | (from == 0 ? FIRST_FLAG : 0)
                | (from + many == entry.length() ? LAST_FLAG : 0);
            cells[NUMBER_PLACE] = number & 255;
            cells[NUMBER_PLACE + 1] = (number >>> 8) & 255;
            for (int i = 0; i < many && i < BLOCK_DATA; i++) {
                cells[DATA_PLACE + i] = entry.at(from + i);
            }
            cells[SUM_PLACE] = sumOf(cells, 0);
        }

        private void begin(int epoch) {
            for (int place = 0; place < BLOCK_BYTES; place++) {
                cells[place] = 0;
            }
            cells[0] = epoch & 255;
            cells[1] = (epoch >>> 8) & 255;
        }
    }

    private static final class Disk {
        private final int[] cells = new int[DISK_BYTES];

        boolean has(int at) {
            return at >= 0 && at < DISK_BYTES;
        }

        int byteAt(int at) {
            return at >= 0 && at < DISK_BYTES ? cells[at] : 0;
        }

        void change(int at, int v) {
            if (at >= 0 && at < DISK_BYTES) {
                cells[at] = v & 255;
            }
        }

        void overwrite(int block, Block with, int bytes) {
            for (int place = 0; place < bytes && place < BLOCK_BYTES; place++) {
                change(block * BLOCK_BYTES + place, with.at(place));
            }
        }

        boolean isAs(int block, Block meant) {
            for (int place = 0; place < BLOCK_BYTES; place++) {
                if (byteAt(block * BLOCK_BYTES + place) != meant.at(place)) {
                    return false;
                }
            }
            return true;
        }

        int epochOf(int block) {
            return pairAt(block * BLOCK_BYTES);
        }

        int greatestEpoch(int half) {
            int greatest = 0;
            for (int number = 0; number < HALF_BLOCKS; number++) {
                greatest = Math.max(greatest, epochOf(half * HALF_BLOCKS + number));
            }
            return greatest;
        }

        boolean isHead(int block) {
            int from = block * BLOCK_BYTES;
            for (int place = SUM_PLACE + 1; place < BLOCK_BYTES; place++) {
                if (byteAt(from + place) != 0) {
                    return false;
                }
            }
            return byteAt(from + COUNT_PLACE) == HEAD_MARK && hasItsSum(from);
        }

        /** Bytes behind those that a log block counts need not be 0 for it: only its sum tells of them. */
        boolean isRight(int half, int number, int epoch, boolean first) {
            int from = (half * HALF_BLOCKS + number) * BLOCK_BYTES;
            int counts = byteAt(from + COUNT_PLACE);
            int many = counts & COUNT_MASK;
            return pairAt(from) == epoch
                && pairAt(from + NUMBER_PLACE) == number
                && many >= 1 && many <= BLOCK_DATA
                && ((counts & FIRST_FLAG) != 0) == first
                && hasItsSum(from);
        }

        private int pairAt(int at) {
            return byteAt(at) | (byteAt(at + 1) << 8);
        }

        private boolean hasItsSum(int from) {
            return byteAt(from + SUM_PLACE) == sumOf(cells, from);
        }
    }

    /** Writes blocks one after the other until a crash comes, and goes on to look at those that are lost. */
    private static final class Writer {
        private int wholeLeft = 0;
        private int tornBytes = 0;
        private int written = 0;
        private boolean allAsMeant = true;

        void begin(int whole, int torn) {
            wholeLeft = whole;
            tornBytes = torn;
            written = 0;
            allAsMeant = true;
        }

        int written() {
            return written;
        }

        boolean isAllAsMeant() {
            return allAsMeant;
        }

        /** Tells whether the block was written whole. */
        boolean write(Disk to, int at, Block block) {
            boolean whole = wholeLeft > 0;
            if (whole) {
                to.overwrite(at, block, BLOCK_BYTES);
                wholeLeft--;
                written++;
            } else {
                to.overwrite(at, block, tornBytes);
                tornBytes = 0;
            }
            allAsMeant = allAsMeant && to.isAs(at, block);
            return whole;
        }
    }

    /** What the disk says: the live half, its log, and where in the log's bytes each key's value lies. */
    private static final class Log {
        private final Row row = new Row(LOG_BLOCKS * BLOCK_DATA);
        private final int[] starts = new int[KEYS];
        private final int[] sizes = new int[KEYS];
        private int half = 0;
        private int epoch = 0;
        private int blocks = 0;
        private int entries = 0;

        int half() {
            return half;
        }

        int epoch() {
            return epoch;
        }

        int blocks() {
            return blocks;
        }

        int entries() {
            return entries;
        }

        Row bytes() {
            return row;
        }

        int sizeOf(int key) {
            return isKey(key) ? sizes[key] : NONE;
        }

        int startOf(int key) {
            return isKey(key) ? starts[key] : 0;
        }

        int keys() {
            int keys = 0;
            for (int key = 0; key < KEYS; key++) {
                if (sizes[key] != NONE) {
                    keys++;
                }
            }
            return keys;
        }

        void read(Disk from) {
            clear();
            findLiveHalf(from);
            int start = 0;
            boolean first = true;
            for (int number = 1; number <= LOG_BLOCKS; number++) {
                if (!from.isRight(half, number, epoch, first)) {
                    return;
                }
                int at = (half * HALF_BLOCKS + number) * BLOCK_BYTES;
                addData(from, at);
                first = (from.byteAt(at + COUNT_PLACE) & LAST_FLAG) != 0;
                if (first) {
                    if (!isEntry(start)) {
                        return;
                    }
                    apply(start);
                    start = row.length();
                    blocks = number;
                    entries++;
                }
            }
        }

        private void clear() {
            row.clear();
            blocks = 0;
            entries = 0;
            for (int key = 0; key < KEYS; key++) {
                sizes[key] = NONE;
            }
        }

        private void findLiveHalf(Disk from) {
            boolean lower = from.isHead(0);
            boolean upper = from.isHead(HALF_BLOCKS);
            int lowerEpoch = lower ? from.epochOf(0) : 0;
            int upperEpoch = upper ? from.epochOf(HALF_BLOCKS) : 0;
            half = upper && (!lower || upperEpoch > lowerEpoch) ? 1 : 0;
            epoch = half == 1 ? upperEpoch : lowerEpoch;
        }

        private void addData(Disk from, int at) {
            int many = from.byteAt(at + COUNT_PLACE) & COUNT_MASK;
            for (int i = 0; i < many; i++) {
                row.add(from.byteAt(at + DATA_PLACE + i));
            }
        }

        /** Whether the bytes from there to the row's end are just an entry's. */
        private boolean isEntry(int start) {
            int changes = row.at(start);
            if (changes < 1 || changes > MOST_CHANGES) {
                return false;
            }
            int at = start + 1;
            for (int i = 0; i < changes; i++) {
                int size = row.at(at + 1);
                if (at + 2 > row.length() || !isKey(row.at(at)) || (size > MOST_VALUE && size != DROPPED)) {
                    return false;
                }
                at += size == DROPPED ? 2 : 2 + size;
            }
            return at == row.length();
        }

        private void apply(int start) {
            int changes = row.at(start);
            int at = start + 1;
            for (int i = 0; i < changes; i++) {
                int key = row.at(at);
                int size = row.at(at + 1);
                at += 2;
                if (isKey(key)) {
                    starts[key] = at;
                    sizes[key] = size == DROPPED ? NONE : size;
                }
                at += size == DROPPED ? 0 : size;
            }
        }
    }
}
