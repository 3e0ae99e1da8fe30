import java.util.Random;

/**
 * Long runs of mixed calls, with BlockLog's answers and disk held against the model's. They go on behind the
 * 512 calls that the document bounds, for this class goes on too, and a full disk is not reached by chance before.
 */
public final class ModelTest {
    private static final int RUNS = 240;
    private static final int CALLS = 500;

    private final Random random;
    private final String name;
    private final BlockLog log = new BlockLog();
    private final Model model = new Model();
    private final int most;
    private final int keys;
    private final int faults;

    private static int anew, noHead, badEntry, noSpace, noEpoch, tornAnew, tornButWhole, revived;

    private ModelTest(int run) {
        random = new Random(run);
        name = "run " + run;
        most = new int[] {0, 4, 40}[run % 3];
        keys = new int[] {3, 40, 200}[run / 3 % 3];
        faults = new int[] {0, 5, 30}[run / 9 % 3];
    }

    public static void main(String[] args) {
        for (int run = 0; run < RUNS; run++) {
            new ModelTest(run).run();
        }
        reached("the log is made anew", anew);
        reached("no head counts", noHead);
        reached("right blocks with a bad entry", badEntry);
        reached("a batch refused for space", noSpace);
        reached("a batch refused for its epoch", noEpoch);
        reached("a crash while the log is made anew", tornAnew);
        reached("a crash that loses nothing", tornButWhole);
        reached("old blocks that follow a new entry", revived);
        Check.end();
    }

    private static void reached(String what, int times) {
        if (times == 0) {
            Check.report("the runs never reach: " + what);
        }
    }

    private void run() {
        compareDisk("new");
        for (int i = 0; i < CALLS; i++) {
            oneCall(name + ", step " + i + ": ");
        }
    }

    private void oneCall(String at) {
        int dice = random.nextInt(100);
        if (dice < faults) {
            fault(at);
        } else if (dice < 65) {
            change(at);
        } else if (dice < 84) {
            commit(at);
        } else if (dice < 93) {
            crash(at);
        } else if (dice < 94) {
            log.forget();
            model.forget();
        } else {
            look(at);
        }
        for (int what = -1; what <= 9; what++) {
            int w = what;
            same(at + "about(" + w + ")", () -> log.about(w), () -> model.about(w));
        }
    }

    private void change(String at) {
        int bytes = most == 0 ? 0 : random.nextInt(most + 1);
        for (int put = 0; put < bytes; put += 4) {
            int many = random.nextInt(20) == 0 ? random.nextInt(8) - 1 : 1 + random.nextInt(4);
            int v = random.nextInt();
            same(at + "put(" + many + ", " + v + ")", () -> log.put(many, v), () -> model.put(many, v));
        }
        int key = random.nextInt(30) == 0 ? oddNumber(200) : random.nextInt(keys);
        if (random.nextInt(4) == 0) {
            same(at + "drop(" + key + ")", () -> log.drop(key), () -> model.drop(key));
        } else {
            same(at + "set(" + key + ")", () -> log.set(key), () -> model.set(key));
        }
    }

    private void commit(String at) {
        int entries = model.about(3);
        int anewBefore = model.about(6);
        if (same(at + "commit()", log::commit, model::commit)) {
            noteRefused();
        } else if (model.about(6) > anewBefore) {
            anew++;
        } else if (model.about(3) > entries + 1) {
            revived++;
        }
        compareDisk(at + "behind commit()");
    }

    private void crash(String at) {
        int blocks = random.nextInt(10) == 0 ? oddNumber(20) : random.nextInt(random.nextBoolean() ? 3 : 60);
        int bytes = random.nextInt(20) == 0 ? oddNumber(32) : random.nextInt(32);
        int before = model.about(5);
        int[] answer = {0};
        if (same(at + "crash(" + blocks + ", " + bytes + ")", () -> log.crash(blocks, bytes),
                () -> answer[0] = model.crash(blocks, bytes))) {
            noteRefused();
        } else {
            boolean torn = model.about(5) - before < model.planned;
            tornAnew += model.wroteAnew && torn ? 1 : 0;
            tornButWhole += torn && answer[0] == 1 ? 1 : 0;
        }
        compareDisk(at + "behind crash()");
    }

    private void noteRefused() {
        noSpace += model.refusedForSpace ? 1 : 0;
        noEpoch += model.refusedForEpoch ? 1 : 0;
        model.refusedForSpace = false;
        model.refusedForEpoch = false;
    }

    private void fault(String at) {
        int kind = random.nextInt(12);
        int half = model.about(0);
        int block = 96 * half + random.nextInt(Math.min(95, model.about(2) + 2));
        int other = 96 * (1 - half) + random.nextInt(96);
        if (kind < 2) {
            spoil(at, random.nextInt(6144), random.nextInt());
        } else if (kind < 3) {
            spoil(at, oddNumber(6144), random.nextInt());
        } else if (kind < 6) {
            // times 32, 16 or 8 and so with the same sum as before
            int place = new int[] {31, 15, 7}[random.nextInt(3)];
            int step = 8 * 32 / (place + 1);
            spoil(at, 32 * block + place, model.disk(32 * block + place) + step * random.nextInt(32));
        } else if (kind < 9) {
            int place = 32 * block + random.nextInt(20);
            spoil(at, place, random.nextInt(4) == 0 ? random.nextInt() : random.nextInt(12));
            mendSum(at, block);
        } else if (kind < 10) {
            spoil(at, 32 * other + random.nextInt(2), random.nextInt(3) == 0 ? 255 : random.nextInt(256));
            if (random.nextInt(4) == 0) {
                spoil(at, 32 * other, 255);
                spoil(at, 32 * other + 1, 255 - random.nextInt(2));
            }
        } else {
            int head = 96 * random.nextInt(2);
            spoil(at, 32 * head + random.nextInt(6), random.nextInt(4) == 0 ? 72 : random.nextInt(4));
            mendSum(at, head);
        }
        compareDisk(at + "behind spoil()");
    }

    private void mendSum(String at, int block) {
        int sum = 0;
        for (int i = 0; i < 32; i++) {
            sum += i == 3 ? 0 : model.disk(32 * block + i) * (i + 1);
        }
        if (random.nextInt(4) != 0) {
            spoil(at, 32 * block + 3, sum);
        }
    }

    private void spoil(String at, int k, int v) {
        same(at + "spoil(" + k + ", " + v + ")", () -> done(() -> log.spoil(k, v)), () -> done(() -> model.spoil(k, v)));
        noHead += model.noHeadCounts ? 1 : 0;
        badEntry += model.badEntryMet ? 1 : 0;
    }

    private static int done(Runnable call) {
        call.run();
        return 0;
    }

    private void look(String at) {
        int key = random.nextInt(5) == 0 ? oddNumber(200) : random.nextInt(keys);
        int k = random.nextInt(5) == 0 ? oddNumber(40) : random.nextInt(6);
        int odd = oddNumber(6144);
        same(at + "size(" + key + ")", () -> log.size(key), () -> model.size(key));
        same(at + "get(" + key + ", " + k + ")", () -> log.get(key, k), () -> model.get(key, k));
        same(at + "disk(" + odd + ")", () -> log.disk(odd), () -> model.disk(odd));
    }

    /** A number at or beyond an edge of 0 .. bound - 1. */
    private int oddNumber(int bound) {
        int[] odd = {-1, 0, bound - 1, bound, bound + 1, Integer.MIN_VALUE, Integer.MAX_VALUE, Integer.MAX_VALUE - 3};
        return odd[random.nextInt(odd.length)];
    }

    /** Tells whether the call threw. */
    private boolean same(String call, java.util.function.IntSupplier got, java.util.function.IntSupplier want) {
        String due = Check.answerOf(want);
        Check.due(call, Check.answerOf(got), due);
        return due.startsWith("throws.");
    }

    private void compareDisk(String at) {
        for (int k = 0; k < 6144; k++) {
            if (log.disk(k) != model.disk(k)) {
                Check.due(at + ", disk(" + k + ")", log.disk(k), model.disk(k));
            }
        }
        for (int key = 0; key < 200; key++) {
            int size = model.size(key);
            Check.due(at + ", size(" + key + ")", log.size(key), size);
            for (int k = 0; k < size && log.size(key) == size; k++) {
                Check.due(at + ", get(" + key + ", " + k + ")", log.get(key, k), model.get(key, k));
            }
        }
    }
}
