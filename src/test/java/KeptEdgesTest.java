/** Promises 19 to 21: images and counts at their edges. */
public final class KeptEdgesTest {
    private static final int OUTSIDE = -2, STATE = -3;

    private KeptEdgesTest() {
    }

    public static void main(String[] args) {
        imagesAreZeroAndOne();
        restoreOfNothing();
        anEmptyOneIsKept();
        aFullOneIsKept();
        oneThatIsNotPackedIsKept();
        whatIsKeptIsNotChanged();
        inPlaceOfWhatWasKept();
        theImageStays();
        imagesAreApart();
        whatIsNotKept();
        registersOfTablesAreAsTheyWere();
        countOfEveryNumber();
        countsOfPackets();
        countOfImages();
        Due.end();
    }

    /** Promises 19, 20: "an IMAGE (0, 1)". */
    private static void imagesAreZeroAndOne() {
        for (int k = -2; k <= 3; k++) {
            boolean there = k == 0 || k == 1;
            StagedTables x = new StagedTables();
            Due.is("20: restore(" + k + ") of nothing", x.restore(k), there ? STATE : OUTSIDE);
            Due.is("19: image(" + k + ")", x.image(k), there ? 1 : OUTSIDE);
            Due.is("21: kept", x.count(9), there ? 1 << k : 0);
            Due.is("20: restore(" + k + ")", x.restore(k), there ? 1 : OUTSIDE);
        }
    }

    /** Promise 20: "STATE: nothing was kept in it". */
    private static void restoreOfNothing() {
        for (int k = 0; k < 2; k++) {
            StagedTables x = Makers.bare(2, 1);
            x.image(1 - k);
            x.drop(0);
            Due.is("20: nothing in " + k, x.restore(k), STATE);
            Due.is("20: nothing changed", x.count(0), 1);
            Due.is("21: the other one alone is kept", x.count(9), 1 << (1 - k));
            Due.is("20: the other one", x.restore(1 - k), 1);
            Due.is("20: it is back", x.count(0), 2);
            Due.is("20: restoring keeps nothing", x.restore(k), STATE);
        }
    }

    private static void anEmptyOneIsKept() {
        StagedTables x = new StagedTables();
        x.image(0);
        for (int t = 0; t < 8; t++) {
            x.table(t % 6);
            x.entry(t, t, 5, t % 6, t % 4);
            x.otherwise(t, 1, 0, 1);
        }
        x.rule(0, 20);
        x.rule(1, 4);
        x.rule(2, 1);
        x.rule(3, 4);
        x.put(3, 9);
        x.tell(5, 9);
        Due.is("20: restore(0)", x.restore(0), 1);
        StagedTables want = new StagedTables();
        want.image(0);
        Seen.of(x).sameAs("20: as new", Seen.of(want));
        Due.is("20: a TABLE has no ENTRY of old", x.table(3) + x.told(0, 1), 0);
        Due.is("20: no DEFAULT of old", x.told(0, 31), 0);
        Due.is("20: no REGISTER of old", x.entry(0, 0, 5, 0, 1), 1);
    }

    private static void aFullOneIsKept() {
        Seen changed = Seen.of(Makers.full());
        StagedTables x = Makers.full();
        x.restore(0);
        for (int t = 7; t >= 0; t--) {
            x.drop(t);
        }
        for (int t = 0; t < 8; t++) {
            x.table(5 - t % 6);
        }
        for (int r = 0; r < 4; r++) {
            x.put(r, 60000 + r);
            x.rule(r, r == 0 ? 5 : 1);
        }
        for (int f = 0; f < 6; f++) {
            x.tell(f, 3);
        }
        x.restore(0);
        StagedTables y = Makers.full();
        y.restore(0);
        Seen kept = Seen.of(y);
        Seen.of(x).sameAs("20: all is as it was", kept);
        Due.isTrue("20: but the REGISTERS had changed since", changed.differsFrom(kept));
    }

    private static void oneThatIsNotPackedIsKept() {
        StagedTables x = Makers.notPacked();
        x.image(0);
        x.rule(2, 8);
        Due.is("PACKED", x.count(8), 1);
        x.restore(0);
        Due.is("20: not PACKED again", x.count(8), 0);
        Due.is("20: stages()", x.stages(), STATE);
        Due.is("20: run()", x.run(), STATE);
    }

    /** Promise 19: what changes behind image() does not change the IMAGE. */
    private static void whatIsKeptIsNotChanged() {
        StagedTables x = Makers.small();
        x.image(0);
        x.image(1);
        Seen want = Seen.of(x);
        StagedTables y = Makers.small();
        y.image(0);
        y.image(1);
        y.entry(0, 8, 8, 0, 0);
        y.otherwise(0, 1, 3, 3);
        y.otherwise(1, 0, 0, 0);
        y.forget(0, 0);
        y.put(2, 1);
        y.put(0, 1);
        y.tell(0, 1);
        y.rule(0, 5);
        y.rule(1, 1);
        y.rule(2, 1);
        y.rule(3, 1);
        y.table(5);
        y.restore(1);
        Seen.of(y).sameAs("20: as they were when they were kept", want);
    }

    /** Promise 19: "in place of what was kept there". */
    private static void inPlaceOfWhatWasKept() {
        StagedTables x = Makers.bare(4, 3, 2, 1);
        x.image(0);
        x.drop(0);
        x.drop(0);
        x.drop(0);
        Due.is("19: again", x.image(0), 1);
        x.drop(0);
        x.restore(0);
        Due.is("20: the one that was kept last", x.count(0), 1);
        Due.is("20: its ENTRIES", x.told(0, 1), 1);
        x.table(2);
        x.image(0);
        x.drop(0);
        x.drop(0);
        x.restore(0);
        Due.is("20: a greater one in place of it", x.count(0), 2);
        Due.is("20: its ENTRIES", x.told(1, 1), 0);
        Due.is("21: one IMAGE still", x.count(9), 1);
    }

    /** Promise 20: "the IMAGE stays". */
    private static void theImageStays() {
        StagedTables x = Makers.bare(2);
        x.image(1);
        for (int i = 0; i < 4; i++) {
            x.entry(0, 1, 1, 1, 1);
            x.put(1, 5);
            x.tell(1, 5);
            x.rule(1, 4);
            Due.is("20: restore(1)", x.restore(1), 1);
            Due.is("20: ENTRIES", x.told(0, 1), 2);
            Due.is("20: REGISTER", x.register(1), 0);
            Due.is("20: PACKET", x.count(11), 0);
            Due.is("20: WIDE", x.count(2), 2);
            Due.is("21: it is kept", x.count(9), 2);
        }
    }

    private static void imagesAreApart() {
        StagedTables x = Makers.bare(1);
        x.image(0);
        x.entry(0, 9, 5, 0, 0);
        x.put(0, 7);
        x.image(1);
        x.drop(0);
        x.restore(0);
        Due.is("20: IMAGE 0", x.told(0, 1), 1);
        Due.is("20: its REGISTER", x.register(0), 0);
        x.restore(1);
        Due.is("20: IMAGE 1", x.told(0, 1), 2);
        Due.is("20: its REGISTER", x.register(0), 7);
        x.image(0);
        x.forget(0, 0);
        x.image(1);
        x.restore(0);
        Due.is("20: the one is kept in the other", x.told(0, 1), 2);
        x.restore(1);
        Due.is("20: and goes its own way", x.told(0, 1), 1);
    }

    /** Promise 19 names what is kept: the PACKET that was DONE and the counts are not. */
    private static void whatIsNotKept() {
        StagedTables x = Makers.bare(0);
        x.otherwise(0, 8, 0, 0);
        x.run();
        x.image(0);
        x.image(1);
        x.otherwise(0, 9, 0, 0);
        x.tell(3, 33);
        x.run();
        x.restore(0);
        Due.is("20: DONE", x.count(5), 2);
        Due.is("20: DROPPED", x.count(6), 1);
        Due.is("20: ROUNDS", x.count(7), 4);
        Due.is("20: the PACKET that was DONE", x.out(3), 33);
        Due.is("20: its ROUNDS", x.out(6), 3);
        Due.is("20: what was taken", x.took(0, 2), 4);
        Due.is("20: the PACKET that is told", x.count(13), 0);
        Due.is("20: the IMAGES", x.count(9), 3);
    }

    private static void registersOfTablesAreAsTheyWere() {
        StagedTables x = Makers.bare(0, 0);
        x.otherwise(0, 5, 1, 3);
        x.image(0);
        x.otherwise(0, 0, 0, 0);
        Due.is("20: another TABLE has it", x.otherwise(1, 5, 1, 3), 0);
        x.restore(0);
        Due.is("20: it is the first one's", x.told(0, 6), 8);
        Due.is("20: not the other one's", x.told(1, 6), 0);
        Due.is("20: nor can it be", x.otherwise(1, 5, 1, 3), -5);
    }

    /** Promise 21: 0 to 15. */
    private static void countOfEveryNumber() {
        StagedTables x = Makers.bare(1, 1, 1);
        x.rule(0, 19);
        x.rule(1, 3);
        x.rule(2, 7);
        x.rule(3, 1);
        x.image(1);
        for (int f = 0; f < 6; f++) {
            x.tell(f, 100 * (f % 2) + f);
        }
        x.run();
        x.run();
        int[] want = {3, 19, 3, 7, 1, 2, 0, 2, 1, 2, 0, 101, 2, 103, 4, 105};
        for (int what = -20; what <= 40; what++) {
            boolean there = what >= 0 && what < want.length;
            Due.is("21: count(" + what + ")", x.count(what), there ? want[what] : OUTSIDE);
        }
        x.tell(1, 100);
        Due.is("21: DROPPED", x.run() * 10 + x.count(6), 11);
    }

    /** Promise 21: "how many PACKETS were DONE (5), DROPPED (6), how many ROUNDS there were (7)". */
    private static void countsOfPackets() {
        StagedTables x = new StagedTables();
        x.table(0);
        x.entry(0, 1, 8, 0, 0);
        x.entry(0, 2, 9, 0, 0);
        int[][] rows = {{0, 1, 0, 1}, {1, 2, 1, 2}, {2, 3, 1, 5}, {1, 4, 2, 6}, {0, 5, 2, 7}};
        for (int[] row : rows) {
            x.tell(0, row[0]);
            x.run();
            Due.is("21: DONE", x.count(5), row[1]);
            Due.is("21: DROPPED", x.count(6), row[2]);
            Due.is("21: ROUNDS", x.count(7), row[3]);
        }
        x.rule(3, 4);
        x.tell(0, 2);
        for (int i = 0; i < 400; i++) {
            x.run();
        }
        Due.is("21: DONE, many", x.count(5), 405);
        Due.is("21: ROUNDS, many", x.count(7), 1607);
        x.table(0);
        x.rule(1, 1);
        x.rule(2, 1);
        Due.is("16: refused", x.run(), STATE);
        Due.is("21: DONE, one refused", x.count(5), 405);
        Due.is("21: ROUNDS, one refused", x.count(7), 1607);
    }

    /** Promise 21: "which IMAGES are kept, a set (9)". */
    private static void countOfImages() {
        StagedTables x = new StagedTables();
        Due.is("21: none", x.count(9), 0);
        x.image(2);
        x.image(-1);
        x.restore(0);
        Due.is("21: none still", x.count(9), 0);
        x.image(0);
        Due.is("21: the first", x.count(9), 1);
        x.image(0);
        Due.is("21: the first again", x.count(9), 1);
        x.image(1);
        Due.is("21: both", x.count(9), 3);
        x.restore(0);
        x.restore(1);
        Due.is("21: both still", x.count(9), 3);
    }
}
