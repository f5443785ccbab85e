import java.util.Random;

/**
 * Runs of drawn calls, always the same ones, on the program and on the model: every answer must be the same. No run goes
 * beyond the 512 calls that the document gives an object, so what cannot be asked after every call is drawn too, and all
 * is asked at last.
 */
public final class RandomRunsTest {
    private static final int RUNS = 20000;
    private static final int CALLS = 512;
    private static final int CALLS_OF_STEP = 4;
    private static final int CALLS_OF_LOOK = 33;
    private static final int WRONG_IN_100 = 2;

    private final Random random;
    private final BookmarkHeap heap = new BookmarkHeap();
    private final HeapModel model = new HeapModel();
    private final int[] weights = new int[10];
    private final int run;
    private int call = 0;

    private RandomRunsTest(int run) {
        this.run = run;
        random = new Random(run);
        // Weights differ from run to run: some fill the heap with what is held, others with garbage.
        int[] most = chain() ? new int[] {4, 2, 10, 10, 4, 4, 2, 2, 1, 40}
            : new int[] {40, 40, 20, 10, 10, 6, 3, 3, 3, 0};
        for (int i = 0; i < weights.length; i++) {
            weights[i] = random.nextInt(most[i] + 1);
        }
        weights[chain() ? 9 : 0] += 10;
    }

    /** Whether this run makes one long chain that register 0 holds: drawn calls alone never fill the heap for good. */
    private boolean chain() {
        return run % 3 == 0;
    }

    public static void main(String[] args) {
        int[] seen = new int[6];
        for (int run = 0; run < RUNS && Due.wrong() == 0; run++) {
            HeapModel model = new RandomRunsTest(run).go();
            int[] one = {model.madeAfterCollection, model.madeAfterThorough, model.madeOnEmptyAfterThorough,
                model.madeNowhere, model.keptByBookmarkAlone, model.countsFellShort};
            for (int i = 0; i < seen.length; i++) {
                seen[i] += one[i];
            }
        }
        for (int i = 0; i < seen.length && Due.wrong() == 0; i++) {
            Due.is("rare path " + i + " taken a hundred times", seen[i] >= 100, true);
        }
        Due.end();
    }

    private HeapModel go() {
        while (call + CALLS_OF_STEP + CALLS_OF_LOOK <= CALLS && Due.wrong() == 0) {
            step();
            if (random.nextInt(3) == 0) {
                glance(random.nextInt(6), random.nextInt(10) - 1);
            }
        }
        for (int p = -1; p <= 8; p++) {
            for (int what = 0; what < 3; what++) {
                glance(what, p);
            }
        }
        for (int what = 3; what < 6; what++) {
            glance(what, 0);
        }
        Due.is("at most 512 calls", call <= CALLS, true);
        return model;
    }

    private void step() {
        int a = register();
        int b = register();
        int f = wrongNow() ? (random.nextBoolean() ? -1 : 2) : random.nextInt(2);
        int n = wrongNow() ? (random.nextBoolean() ? 1 : 9) : random.nextInt(3) > 0 ? 2 + random.nextInt(3)
            : 2 + random.nextInt(7);
        int v = random.nextInt();
        switch (kind()) {
            case 0 -> same("make(" + a + ", " + v + ")", () -> heap.make(a, v), () -> model.make(a, v));
            case 1 -> same("store(" + a + ", " + f + ", " + b + ")", () -> heap.store(a, f, b),
                () -> model.store(a, f, b));
            case 2 -> same("load(" + a + ", " + b + ", " + f + ")", () -> heap.load(a, b, f),
                () -> model.load(a, b, f));
            case 3 -> same("value(" + a + ")", () -> heap.value(a), () -> model.value(a));
            case 4 -> same("copy(" + a + ", " + b + ")", () -> heap.copy(a, b), () -> model.copy(a, b));
            case 5 -> same("drop(" + a + ")", () -> heap.drop(a), () -> model.drop(a));
            case 6 -> same("budget(" + n + ")", () -> heap.budget(n), () -> model.budget(n));
            case 7 -> same("collect()", heap::collect, model::collect);
            case 8 -> same("thorough()", heap::thorough, model::thorough);
            default -> grow(1 + random.nextInt(3), v);
        }
    }

    private void grow(int b, int v) {
        same("copy(" + b + ", 0)", () -> heap.copy(b, 0), () -> model.copy(b, 0));
        same("make(0, " + v + ")", () -> heap.make(0, v), () -> model.make(0, v));
        same("store(0, 0, " + b + ")", () -> heap.store(0, 0, b), () -> model.store(0, 0, b));
    }

    private int kind() {
        int sum = 0;
        for (int weight : weights) {
            sum += weight;
        }
        int drawn = random.nextInt(sum);
        int kind = 0;
        while (drawn >= weights[kind]) {
            drawn -= weights[kind];
            kind++;
        }
        return kind;
    }

    private boolean wrongNow() {
        return random.nextInt(100) < WRONG_IN_100;
    }

    private int register() {
        if (wrongNow()) {
            return random.nextBoolean() ? -1 : 4;
        }
        return chain() ? 1 + random.nextInt(3) : random.nextInt(4);
    }

    private void same(String name, Due.Call program, Due.Call words) {
        call++;
        Due.is("run " + run + ", call " + call + ": " + name, Due.answer(program), Due.answer(words));
    }

    private void glance(int what, int p) {
        switch (what) {
            case 0 -> same("page(" + p + ")", () -> heap.page(p), () -> model.page(p));
            case 1 -> same("count(" + p + ")", () -> heap.count(p), () -> model.count(p));
            case 2 -> same("places(" + p + ")", () -> heap.places(p), () -> model.places(p));
            case 3 -> same("faults()", heap::faults, model::faults);
            case 4 -> same("objects()", heap::objects, model::objects);
            default -> same("hand()", heap::hand, model::hand);
        }
    }
}
