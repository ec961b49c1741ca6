import java.util.Random;

/** All promises: runs of calls by chance, each answer as the model's. */
public final class AgainstModelTest {
    private static final int RUNS = 4000;
    /** With the two calls behind them 512: what later ones answer is free. */
    private static final int CALLS = 510;
    private static final int[] ODD = {-1, -2, 6, 7, 8, 9, 10, 256, 65536, -65536, Integer.MAX_VALUE, Integer.MIN_VALUE};

    private final Random random;
    private final StagedTables mine = new StagedTables();
    private final Model model = new Model();
    /** Some runs have small programs, some large ones, some with acts that need one another much. */
    private final int fieldsUsed;
    private final int registerShare;
    private final int growth;

    private AgainstModelTest(int seed) {
        random = new Random(seed);
        fieldsUsed = 1 + random.nextInt(6);
        registerShare = random.nextInt(4);
        growth = 1 + random.nextInt(12);
    }

    public static void main(String[] args) {
        int better = 0;
        for (int seed = 0; seed < RUNS; seed++) {
            AgainstModelTest run = new AgainstModelTest(seed);
            for (int call = 0; call < CALLS; call++) {
                run.callOne(seed, call);
            }
            int stages = run.mine.stages();
            better += stages > 0 && run.mine.fewest() < stages ? 1 : 0;
        }
        Due.isTrue("some program has fewer stages than it is packed into", better > 0);
        Due.end();
    }

    private int upTo(int greatest) {
        if (random.nextInt(40) == 0) {
            return ODD[random.nextInt(ODD.length)];
        }
        return random.nextInt(greatest + 1);
    }

    private int field() {
        return upTo(fieldsUsed - 1);
    }

    private int tableNumber() {
        return upTo(Math.max(0, model.count(0) - (random.nextInt(10) == 0 ? 0 : 1)));
    }

    /** Small numbers, so that keys meet values. */
    private int small() {
        return random.nextInt(4) == 0 ? upTo(255) : upTo(3);
    }

    private int[] act() {
        int kind = random.nextInt(4) < registerShare ? 5 + random.nextInt(3) : upTo(9);
        int x = switch (kind) {
            case 1, 3 -> small();
            case 2, 4 -> field();
            default -> upTo(3);
        };
        return new int[] {kind, field(), x};
    }

    private void same(int seed, int call, String name, int got, int want, int... args) {
        if (got != want) {
            Due.is("seed " + seed + ", call " + call + ": " + name + java.util.Arrays.toString(args), got, want);
        }
    }

    private void callOne(int seed, int call) {
        int which = random.nextInt(100);
        if (which < 38) {
            change(seed, call, which);
        } else {
            ask(seed, call, which);
        }
    }

    private void change(int seed, int call, int which) {
        int t = tableNumber();
        int[] a = act();
        int n = small();
        int k = upTo(1);
        if (which < growth) {
            int key = field();
            same(seed, call, "table", mine.table(key), model.table(key), key);
        } else if (which < 20) {
            same(seed, call, "entry", mine.entry(t, n, a[0], a[1], a[2]), model.entry(t, n, a[0], a[1], a[2]), t, n, a[0], a[1], a[2]);
        } else if (which < 25) {
            same(seed, call, "otherwise", mine.otherwise(t, a[0], a[1], a[2]), model.otherwise(t, a[0], a[1], a[2]), t, a[0], a[1], a[2]);
        } else if (which < 28) {
            same(seed, call, "forget", mine.forget(t, n), model.forget(t, n), t, n);
        } else if (which < 30) {
            same(seed, call, "drop", mine.drop(t), model.drop(t), t);
        } else if (which < 34) {
            int what = upTo(3);
            int m = what == 0 ? upTo(20) : upTo(8);
            same(seed, call, "rule", mine.rule(what, m), model.rule(what, m), what, m);
        } else if (which < 36) {
            same(seed, call, "image", mine.image(k), model.image(k), k);
        } else if (which == 36) {
            same(seed, call, "restore", mine.restore(k), model.restore(k), k);
        } else {
            int r = upTo(3);
            int m = random.nextBoolean() ? n : upTo(65535);
            same(seed, call, "put", mine.put(r, m), model.put(r, m), r, m);
        }
    }

    private void ask(int seed, int call, int which) {
        int t = tableNumber();
        if (which < 46) {
            int f = field();
            int n = small();
            same(seed, call, "tell", mine.tell(f, n), model.tell(f, n), f, n);
        } else if (which < 56) {
            same(seed, call, "run", mine.run(), model.run());
        } else if (which < 62) {
            int what = upTo(6);
            same(seed, call, "out", mine.out(what), model.out(what), what);
        } else if (which < 68) {
            int round = upTo(3);
            same(seed, call, "took", mine.took(t, round), model.took(t, round), t, round);
        } else if (which < 78) {
            int what = random.nextInt(3) == 0 ? upTo(34) : upTo(6);
            same(seed, call, "told", mine.told(t, what), model.told(t, what), t, what);
        } else if (which < 84) {
            int other = tableNumber();
            same(seed, call, "needs", mine.needs(t, other), model.needs(t, other), t, other);
        } else if (which < 87) {
            same(seed, call, "stages", mine.stages(), model.stages());
        } else if (which < 91) {
            int i = upTo(7);
            int what = upTo(1);
            same(seed, call, "stage", mine.stage(i, what), model.stage(i, what), i, what);
        } else if (which < 93) {
            same(seed, call, "fewest", mine.fewest(), model.fewest());
        } else if (which < 96) {
            int r = upTo(3);
            same(seed, call, "register", mine.register(r), model.register(r), r);
        } else {
            int what = upTo(15);
            same(seed, call, "count", mine.count(what), model.count(what), what);
        }
    }
}
