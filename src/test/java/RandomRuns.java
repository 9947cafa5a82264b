import java.util.Random;

/**
 * Runs of 512 calls from fixed seeds, each answer and all that can be seen held against the model.
 * Runs that crowd few pages make guesses, queues and calls meet; others roam.
 */
public final class RandomRuns {
    private static final int RUNS = 300;
    private static final int CALLS = 512;
    private static final int[] ODD = {-1, -2, 7, 8, 9, 31, 32, 33, 64, 1 << 30,
        Integer.MIN_VALUE, Integer.MAX_VALUE};

    private final Random dice;
    private final Pages real = new Real();
    private final Pages model = new Model();
    private final int pages;
    private final int patience;
    private int nodes = 4;
    private String told = "";
    private static int mostFlying = 0;
    private static int mostQueued = 0;
    private static int[] seen = new int[8];

    private RandomRuns(int seed) {
        dice = new Random(seed);
        pages = 1 + dice.nextInt(seed % 4 == 0 ? 8 : 2);
        patience = 1 + dice.nextInt(9);
    }

    public static void main(String[] args) {
        int wrong = 0;
        for (int seed = 1; seed <= RUNS; seed++) {
            wrong += new RandomRuns(seed).run(seed);
        }
        wrong += poorRuns();
        System.out.println(wrong == 0 ? "random runs: all as the model" : wrong + " runs differ");
        if (wrong != 0) {
            System.exit(1);
        }
    }

    /** What the runs have to have met if they are to say anything. */
    private static int poorRuns() {
        int poor = 0;
        for (int kind = 1; kind <= 6; kind++) {
            if (seen[kind] < 100) {
                System.out.println("letters of kind " + kind + " came only " + seen[kind]
                        + " times");
                poor++;
            }
        }
        if (mostFlying < 8 || mostQueued < 3) {
            System.out.println("at most " + mostFlying + " in flight, " + mostQueued + " queued");
            poor++;
        }
        return poor;
    }

    private int run(int seed) {
        for (int k = 0; k < CALLS; k++) {
            long[] answers = k == 0 ? startCall() : nextCall();
            if (answers[0] != answers[1]) {
                System.out.println("seed " + seed + ", call " + k + ": " + told + " answered "
                        + answers[0] + ", due is " + answers[1]);
                return 1;
            }
            String got = Snapshot.of(real);
            String want = Snapshot.of(model);
            if (!got.equals(want)) {
                System.out.println("seed " + seed + ", after call " + k + ": " + told + ": "
                        + Snapshot.difference(got, want));
                return 1;
            }
            look();
        }
        return 0;
    }

    private void look() {
        mostFlying = Math.max(mostFlying, real.flying());
        for (int node = 0; node < nodes; node++) {
            for (int page = 0; page < pages; page++) {
                mostQueued = Math.max(mostQueued, real.queue(node, page));
            }
        }
    }

    private long[] startCall() {
        nodes = 2 + dice.nextInt(5);
        told = "begin(" + nodes + ")";
        return new long[] {real.begin(nodes) ? 1 : 0, model.begin(nodes) ? 1 : 0};
    }

    private long[] nextCall() {
        if (dice.nextInt(60) == 0) {
            return oddCall();
        }
        if (dice.nextInt(300) == 0) {
            return startCall();
        }
        int node = dice.nextInt(nodes);
        int page = dice.nextInt(pages);
        int word = dice.nextInt(4);
        if (real.flying() > 0 && dice.nextInt(10) < patience) {
            int i = dice.nextInt(real.flying());
            told = "deliver(" + i + ")";
            int kind = real.deliver(i);
            seen[Math.max(0, Math.min(7, kind))]++;
            return new long[] {kind, model.deliver(i)};
        }
        if (dice.nextBoolean()) {
            told = "read(" + node + ", " + page + ", " + word + ")";
            return new long[] {real.read(node, page, word), model.read(node, page, word)};
        }
        long v = dice.nextLong();
        told = "write(" + node + ", " + page + ", " + word + ", " + v + ")";
        return new long[] {real.write(node, page, word, v), model.write(node, page, word, v)};
    }

    private int odd() {
        return ODD[dice.nextInt(ODD.length)];
    }

    private long[] oddCall() {
        int a = dice.nextBoolean() ? odd() : dice.nextInt(nodes);
        int b = dice.nextBoolean() ? odd() : dice.nextInt(pages);
        int c = odd();
        told = "a call with " + a + ", " + b + ", " + c;
        switch (dice.nextInt(9)) {
            case 0: return new long[] {real.begin(c) ? 1 : 0, model.begin(c) ? 1 : 0};
            case 1: return new long[] {real.read(a, b, c), model.read(a, b, c)};
            case 2: return new long[] {real.write(a, b, c, 5), model.write(a, b, c, 5)};
            case 3: return new long[] {real.deliver(c), model.deliver(c)};
            case 4: return new long[] {real.at(a, c), model.at(a, c)};
            case 5: return new long[] {real.letter(a, c), model.letter(a, c)};
            case 6: return new long[] {real.letterWord(a, c), model.letterWord(a, c)};
            case 7: return new long[] {real.chain(a, c), model.chain(a, c)};
            default: return new long[] {real.count(c), model.count(c)};
        }
    }
}
