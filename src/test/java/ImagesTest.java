/** Promises 19 to 21: images, and what is counted. */
public final class ImagesTest {
    private static final int[] FAR = {Integer.MIN_VALUE, -1, 1000, Integer.MAX_VALUE};

    private ImagesTest() {
    }

    public static void main(String[] args) {
        refuses();
        keepsAllOfIt();
        keepsNothingElse();
        imagesAreApart();
        anImageIsReplaced();
        count();
        Due.end();
    }

    private static void refuses() {
        StagedTables x = new StagedTables();
        for (int far : FAR) {
            Due.is("19: image(" + far + ")", x.image(far), -2);
            Due.is("20: restore(" + far + ")", x.restore(far), -2);
        }
        Due.is("19: image(2)", x.image(2), -2);
        Due.is("20: restore(2)", x.restore(2), -2);
        Due.is("20: restore(0)", x.restore(0), -3);
        Due.is("19: image(1)", x.image(1), 1);
        Due.is("20: restore(0), the other one being kept", x.restore(0), -3);
        Due.is("20: restore(1)", x.restore(1), 1);
        Due.is("21: which are kept", x.count(9), 2);
        x.image(0);
        Due.is("21: which are kept", x.count(9), 3);
    }

    private static StagedTables filled() {
        StagedTables x = new StagedTables();
        for (int t = 0; t < 8; t++) {
            x.table(t % 6);
            x.otherwise(t, 1 + t % 4, t % 6, t % 5);
            for (int e = 0; e < t % 5; e++) {
                x.entry(t, 20 * t + e, t < 4 ? 5 : 3, e, t);
            }
        }
        for (int i = 0; i < 4; i++) {
            x.put(i, 1000 + i);
        }
        for (int f = 0; f < 6; f++) {
            x.tell(f, 200 + f);
        }
        x.rule(0, 7);
        x.rule(1, 3);
        x.rule(2, 6);
        x.rule(3, 2);
        return x;
    }

    /** All that an image keeps, in so few calls that two of these are no more than 512. */
    private static int[] state(StagedTables x) {
        int[] all = new int[183];
        int n = 0;
        for (int t = 0; t < 8; t++) {
            all[n++] = x.told(t, 0);
            all[n++] = x.told(t, 1);
            for (int what = 10; what <= 33; what++) {
                if (what <= 25 || what >= 31) {
                    all[n++] = x.told(t, what);
                }
            }
        }
        for (int r = 0; r < 4; r++) {
            all[n++] = x.register(r);
        }
        for (int what = 0; what <= 4; what++) {
            all[n++] = x.count(what);
        }
        for (int what = 10; what <= 15; what++) {
            all[n++] = x.count(what);
        }
        return all;
    }

    private static void same(String what, int[] got, int[] want) {
        for (int i = 0; i < want.length; i++) {
            Due.is(what + ", answer " + i, got[i], want[i]);
        }
    }

    private static void keepsAllOfIt() {
        int[] want = state(filled());
        StagedTables x = filled();
        Due.is("19: image(0)", x.image(0), 1);
        same("19: keeping changes nothing", state(x), want);
        for (int t = 7; t >= 0; t--) {
            x.otherwise(t, 0, 0, 0);
            x.forget(t, 0);
            x.drop(t);
        }
        for (int f = 0; f < 6; f++) {
            x.tell(f, 0);
        }
        for (int r = 0; r < 4; r++) {
            x.put(r, 0);
        }
        x.rule(0, 20);
        x.rule(1, 4);
        x.rule(2, 8);
        x.rule(3, 4);
        x.table(3);
        x.entry(0, 1, 1, 1, 1);
        Due.is("20: restore(0)", x.restore(0), 1);
        same("20: all is as it was", state(x), want);
    }

    private static void keepsNothingElse() {
        StagedTables x = new StagedTables();
        x.table(0);
        x.image(0);
        x.otherwise(0, 8, 0, 0);
        x.tell(1, 9);
        x.run();
        x.restore(0);
        Due.is("20: what was done stays", x.out(1), 9);
        Due.is("20: what was taken stays", x.took(0, 0), 4);
        Due.is("20: done", x.count(5), 1);
        Due.is("20: dropped", x.count(6), 1);
        Due.is("20: rounds", x.count(7), 1);
        Due.is("20: images", x.count(9), 1);
    }

    private static void imagesAreApart() {
        StagedTables x = new StagedTables();
        x.table(1);
        x.entry(0, 5, 1, 2, 3);
        x.image(0);
        x.table(2);
        x.entry(0, 6, 1, 2, 4);
        x.image(1);
        x.forget(0, 0);
        x.restore(0);
        Due.is("20: image 0", x.count(0), 1);
        x.entry(0, 77, 1, 2, 3);
        x.otherwise(0, 1, 1, 1);
        x.put(0, 5);
        x.tell(0, 5);
        Due.is("20: again", x.restore(0), 1);
        Due.is("20: the image stays: entries", x.told(0, 1), 1);
        Due.is("20: the image stays: default", x.told(0, 31), 0);
        Due.is("20: the image stays: register", x.register(0), 0);
        Due.is("20: the image stays: packet", x.count(10), 0);
        x.restore(1);
        Due.is("20: image 1", x.count(0), 2);
        Due.is("20: image 1: value", x.told(0, 14), 6);
        StagedTables other = new StagedTables();
        Due.is("20: another object has no image", other.restore(0), -3);
    }

    private static void anImageIsReplaced() {
        StagedTables x = filled();
        x.image(1);
        while (x.count(0) > 2) {
            x.drop(0);
        }
        int[] want = state(x);
        Due.is("19: in place of what was kept", x.image(1), 1);
        x.drop(0);
        x.put(0, 1);
        x.restore(1);
        same("20: what was kept last", state(x), want);
    }

    private static void count() {
        StagedTables x = filled();
        int[] want = {8, 7, 3, 6, 2, 0, 0, 0, 0, 0, 200, 201, 202, 203, 204, 205};
        for (int what = 0; what < want.length; what++) {
            Due.is("21: count(" + what + ")", x.count(what), want[what]);
        }
        Due.is("21: count(16)", x.count(16), -2);
        for (int far : FAR) {
            Due.is("21: count(" + far + ")", x.count(far), -2);
        }
        StagedTables y = new StagedTables();
        y.table(0);
        y.otherwise(0, 9, 0, 0);
        y.entry(0, 1, 8, 0, 0);
        y.run();
        y.tell(0, 1);
        y.run();
        y.run();
        Due.is("21: done", y.count(5), 3);
        Due.is("21: dropped", y.count(6), 2);
        Due.is("21: rounds", y.count(7), 5);
        Due.is("21: packed", y.count(8), 1);
        y.table(0);
        y.otherwise(1, 5, 0, 0);
        y.table(0);
        y.rule(2, 1);
        Due.is("21: not packed", y.count(8), 0);
    }
}
