/** Promises 13 to 18: packets. */
public final class PacketsTest {
    private static final int[] FAR = {Integer.MIN_VALUE, -1, 65536, Integer.MAX_VALUE};

    private PacketsTest() {
    }

    public static void main(String[] args) {
        tell();
        putAndRegister();
        fieldActs();
        registerActs();
        runWithoutTables();
        runDropped();
        runAgain();
        runRefused();
        runTakesThePacketAsTold();
        runGoesStageByStage();
        out();
        took();
        tookByTheNumbersThen();
        Due.end();
    }

    private static void tell() {
        StagedTables x = new StagedTables();
        for (int f = 0; f < 6; f++) {
            Due.is("13: at first", x.tell(f, 255), 0);
            Due.is("13: then", x.tell(f, f), 255);
            Due.is("13: it is told", x.count(10 + f), f);
            Due.is("13: above", x.tell(f, 256), -2);
            for (int far : FAR) {
                Due.is("13: far number", x.tell(f, far), -2);
            }
            Due.is("13: refusals change nothing", x.count(10 + f), f);
        }
        Due.is("13: field 6", x.tell(6, 0), -1);
        Due.is("13: unknown before outside", x.tell(6, 256), -1);
        for (int far : FAR) {
            Due.is("13: far field", x.tell(far, 0), -1);
        }
        Due.is("13: 0 may be told", x.tell(5, 0), 5);
    }

    private static void putAndRegister() {
        StagedTables x = new StagedTables();
        for (int r = 0; r < 4; r++) {
            Due.is("14: at first", x.put(r, 65535), 0);
            Due.is("15: register", x.register(r), 65535);
            Due.is("14: then", x.put(r, r + 1), 65535);
            for (int far : FAR) {
                Due.is("14: far number", x.put(r, far), -2);
            }
            Due.is("15: refusals change nothing", x.register(r), r + 1);
        }
        Due.is("14: register 4", x.put(4, 0), -1);
        Due.is("14: unknown before outside", x.put(4, -1), -1);
        Due.is("15: register 4", x.register(4), -1);
        for (int far : FAR) {
            Due.is("14: far register", x.put(far, 0), -1);
            Due.is("15: far register", x.register(far), -1);
        }
        Due.is("14: 0 may be put", x.put(3, 0), 4);
        x.table(0);
        x.otherwise(0, 5, 0, 1);
        Due.is("14: one that a table has may be put", x.put(1, 9), 2);
    }

    /** What field 1 is after one act on it, fields 1 and 2 being as told. */
    private static int done(int kind, int n, int act, int other) {
        StagedTables x = new StagedTables();
        x.table(0);
        x.otherwise(0, kind, 1, act);
        x.tell(1, n);
        x.tell(2, other);
        Due.is("16: run(), kind " + kind, x.run(), 0);
        return x.out(1);
    }

    private static void fieldActs() {
        Due.is("16: nothing", done(0, 7, 2, 9), 7);
        Due.is("16: set", done(1, 7, 255, 9), 255);
        Due.is("16: set to 0", done(1, 7, 0, 9), 0);
        Due.is("16: copy", done(2, 7, 2, 9), 9);
        Due.is("16: copy of itself", done(2, 7, 1, 9), 7);
        Due.is("16: add", done(3, 7, 248, 9), 255);
        Due.is("16: add to 256", done(3, 8, 248, 9), 0);
        Due.is("16: add 255 to 255", done(3, 255, 255, 9), 254);
        Due.is("16: mix", done(4, 0b1100, 2, 0b1010), 0b0110);
        Due.is("16: mix with itself", done(4, 77, 1, 9), 0);
    }

    private static void registerAct(int kind, int[] fieldAndRegister, int field, int register) {
        StagedTables x = new StagedTables();
        x.table(0);
        x.otherwise(0, kind, 1, 3);
        x.tell(1, fieldAndRegister[0]);
        x.put(3, fieldAndRegister[1]);
        Due.is("16: run(), kind " + kind, x.run(), 0);
        Due.is("16: the field, kind " + kind, x.out(1), field);
        Due.is("16: the register, kind " + kind, x.register(3), register);
        Due.is("16: another register", x.register(0), 0);
    }

    private static void registerActs() {
        registerAct(5, new int[] {9, 0}, 1, 1);
        registerAct(5, new int[] {9, 255}, 0, 256);
        registerAct(5, new int[] {9, 65534}, 255, 65535);
        registerAct(5, new int[] {9, 65535}, 0, 0);
        registerAct(6, new int[] {9, 8}, 1, 9);
        registerAct(6, new int[] {9, 9}, 0, 9);
        registerAct(6, new int[] {9, 10}, 0, 10);
        registerAct(6, new int[] {255, 256}, 0, 256);
        registerAct(6, new int[] {0, 0}, 0, 0);
        registerAct(7, new int[] {9, 8}, 8, 9);
        registerAct(7, new int[] {9, 0x1234}, 0x34, 9);
        registerAct(7, new int[] {0, 65535}, 255, 0);
    }

    private static void runWithoutTables() {
        StagedTables x = new StagedTables();
        x.tell(4, 44);
        Due.is("16: run() without tables", x.run(), 0);
        Due.is("17: one round", x.out(6), 1);
        Due.is("17: the field", x.out(4), 44);
        Due.is("18: no table", x.took(0, 0), -6);
        Due.is("21: done", x.count(5), 1);
        Due.is("21: rounds", x.count(7), 1);
    }

    private static void runDropped() {
        StagedTables x = new StagedTables();
        x.table(0);
        x.otherwise(0, 8, 0, 0);
        x.table(1);
        x.otherwise(1, 3, 1, 5);
        x.table(2);
        x.otherwise(2, 9, 0, 0);
        Due.is("16: dropped, though marked again", x.run(), 1);
        Due.is("17: no further round", x.out(6), 1);
        Due.is("17: the tables behind it act", x.out(1), 5);
        Due.is("18: and are told", x.took(2, 0), 4);
        Due.is("21: dropped", x.count(6), 1);
        x.otherwise(0, 0, 0, 0);
        Due.is("16: the mark is gone with the packet", x.run(), 2);
        Due.is("21: dropped", x.count(6), 1);
        Due.is("21: done", x.count(5), 2);
        Due.is("21: rounds", x.count(7), 4);
    }

    private static void runAgain() {
        StagedTables x = new StagedTables();
        x.table(0);
        x.otherwise(0, 9, 0, 0);
        x.entry(0, 2, 0, 0, 0);
        x.table(1);
        x.otherwise(1, 3, 0, 1);
        for (int times = 1; times <= 4; times++) {
            x.rule(3, times);
            Due.is("16: times " + times, x.run(), times < 3 ? 2 : 0);
            Due.is("17: rounds, times " + times, x.out(6), Math.min(times, 3));
            Due.is("17: field, times " + times, x.out(0), Math.min(times, 3));
        }
        x.forget(0, 0);
        x.entry(0, 1, 8, 0, 0);
        Due.is("16: dropped in the second round", x.run(), 1);
        Due.is("17: two rounds", x.out(6), 2);
    }

    private static void runRefused() {
        StagedTables x = new StagedTables();
        x.table(0);
        x.otherwise(0, 5, 1, 0);
        Due.is("16: packed", x.run(), 0);
        x.table(1);
        x.rule(2, 1);
        x.tell(3, 9);
        Due.is("16: not packed", x.run(), -3);
        Due.is("17: the packet before", x.out(3), 0);
        Due.is("18: the packet before", x.took(1, 0), -6);
        Due.is("15: the register", x.register(0), 1);
        Due.is("21: done", x.count(5), 1);
        Due.is("21: rounds", x.count(7), 1);
    }

    private static void runTakesThePacketAsTold() {
        StagedTables x = new StagedTables();
        x.table(0);
        x.otherwise(0, 3, 1, 1);
        for (int i = 0; i < 3; i++) {
            x.run();
            Due.is("16: from what is told", x.out(1), 1);
            Due.is("16: which stays", x.count(11), 0);
        }
        x.tell(1, 200);
        Due.is("17: telling changes no packet that was done", x.out(1), 1);
    }

    private static void runGoesStageByStage() {
        StagedTables x = new StagedTables();
        x.table(0);
        x.otherwise(0, 2, 1, 2);
        x.table(0);
        x.otherwise(1, 1, 2, 50);
        x.tell(2, 7);
        Due.is("16: both in one stage", x.stages(), 1);
        Due.is("16: run()", x.run(), 0);
        Due.is("16: it reads what was before", x.out(1), 7);
        Due.is("16: it writes what is then", x.out(2), 50);
        x.drop(0);
        x.table(0);
        x.otherwise(1, 2, 1, 2);
        Due.is("16: now in two", x.stages(), 2);
        x.run();
        Due.is("16: it reads what was written", x.out(1), 50);
    }

    private static void out() {
        StagedTables x = new StagedTables();
        for (int what = 0; what <= 6; what++) {
            Due.is("17: none yet", x.out(what), -6);
        }
        Due.is("17: outside before none", x.out(7), -2);
        for (int f = 0; f < 6; f++) {
            x.tell(f, 100 + f);
        }
        x.run();
        for (int f = 0; f < 6; f++) {
            Due.is("17: field " + f, x.out(f), 100 + f);
        }
        Due.is("17: rounds", x.out(6), 1);
        for (int far : new int[] {-1, 7, Integer.MIN_VALUE, Integer.MAX_VALUE}) {
            Due.is("17: outside", x.out(far), -2);
        }
        x.table(0);
        x.drop(0);
        Due.is("17: it stays", x.out(3), 103);
    }

    private static void took() {
        StagedTables x = new StagedTables();
        Due.is("18: no packet yet", x.took(7, 3), -6);
        for (int far : new int[] {-1, 8, Integer.MIN_VALUE, Integer.MAX_VALUE}) {
            Due.is("18: table outside", x.took(far, 0), -2);
        }
        for (int far : new int[] {-1, 4, Integer.MIN_VALUE, Integer.MAX_VALUE}) {
            Due.is("18: round outside", x.took(0, far), -2);
        }
        x.table(0);
        x.otherwise(0, 9, 0, 0);
        for (int e = 0; e < 4; e++) {
            x.entry(0, e, 9, 0, 0);
        }
        x.table(1);
        x.otherwise(1, 3, 0, 1);
        x.rule(3, 4);
        x.tell(0, 1);
        Due.is("18: run()", x.run(), 2);
        int[] want = {1, 2, 3, 4};
        for (int round = 0; round < 4; round++) {
            Due.is("18: took(0, " + round + ")", x.took(0, round), want[round]);
            Due.is("18: took(1, " + round + ")", x.took(1, round), 4);
            Due.is("18: no such table", x.took(2, round), -6);
        }
        x.rule(3, 2);
        x.run();
        Due.is("18: the second round", x.took(0, 1), 2);
        Due.is("18: no third round", x.took(0, 2), -6);
    }

    private static void tookByTheNumbersThen() {
        StagedTables x = new StagedTables();
        x.table(0);
        x.table(0);
        x.entry(1, 0, 0, 0, 0);
        x.run();
        x.drop(0);
        Due.is("18: table 0 then", x.took(0, 0), 4);
        Due.is("18: table 1 then", x.took(1, 0), 0);
        x.forget(0, 0);
        Due.is("18: its entry then", x.took(1, 0), 0);
        x.table(0);
        x.table(0);
        Due.is("18: no such table then", x.took(2, 0), -6);
        x.drop(2);
        x.drop(1);
        x.run();
        Due.is("18: fewer tables then", x.took(1, 0), -6);
    }
}
