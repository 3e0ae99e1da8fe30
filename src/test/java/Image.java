/** A disk's bytes, reckoned apart from the class: what a test spoils a disk to, or what it wants of one. */
final class Image {
    static final int BYTES = 192 * 32;
    /** The first byte of half 1. */
    static final int UPPER = 96 * 32;
    static final int FIRST = 64;
    static final int LAST = 128;
    static final int ONLY = FIRST + LAST;

    private final int[] bytes = new int[BYTES];

    /** The disk of a new object. */
    static Image fresh() {
        return new Image().head(0, 1);
    }

    /** A new object's disk, but its head does not count: half 0 is live, with epoch 0. */
    static Image headless() {
        return fresh().with(2, 0);
    }

    int at(int k) {
        return bytes[k];
    }

    Image with(int at, int v) {
        bytes[at] = v;
        return this;
    }

    Image summed(int block) {
        int sum = 0;
        for (int place = 0; place < 32; place++) {
            sum += place == 3 ? 0 : bytes[32 * block + place] * (place + 1);
        }
        return with(32 * block + 3, sum & 255);
    }

    Image head(int half, int epoch) {
        return raw(96 * half, epoch & 255, epoch >> 8, 72, 0);
    }

    /** A log block with a right sum, whether or not its other bytes can be. */
    Image block(int half, int number, int epoch, int counts, int... data) {
        int[] all = new int[6 + data.length];
        all[0] = epoch & 255;
        all[1] = epoch >> 8;
        all[2] = counts;
        all[4] = number & 255;
        all[5] = number >> 8;
        System.arraycopy(data, 0, all, 6, data.length);
        return raw(96 * half + number, all);
    }

    /** An entry's bytes in blocks of 26 from a number on. */
    Image entry(int half, int number, int epoch, int... data) {
        for (int from = 0; from < data.length; from += 26) {
            int many = Math.min(26, data.length - from);
            int flags = (from == 0 ? FIRST : 0) + (from + many == data.length ? LAST : 0);
            int[] part = new int[many];
            System.arraycopy(data, from, part, 0, many);
            block(half, number + from / 26, epoch, flags + many, part);
        }
        return this;
    }

    private Image raw(int block, int... first) {
        for (int place = 0; place < 32; place++) {
            with(32 * block + place, place < first.length ? first[place] : 0);
        }
        return summed(block);
    }
}
