/** Promises 1 to 9: the program. */
public final class ProgramTest {
    private static final int[] FAR = {Integer.MIN_VALUE, -1000, -1, 1000000, Integer.MAX_VALUE};

    private ProgramTest() {
    }

    public static void main(String[] args) {
        aNewObject();
        table();
        entryTakesEveryKind();
        entryRefuses();
        entryRefusesInOrder();
        otherwise();
        forget();
        drop();
        rule();
        toldOfTheTable();
        toldOfItsActs();
        toldRefuses();
        levels();
        needs();
        needsCountEveryAct();
        Due.end();
    }

    private static void aNewObject() {
        StagedTables x = new StagedTables();
        int[] want = {0, 10, 2, 8, 3, 0, 0, 0, 1, 0, 0, 0, 0, 0, 0, 0};
        for (int what = 0; what < want.length; what++) {
            Due.is("1: count(" + what + ")", x.count(what), want[what]);
        }
        for (int r = 0; r < 4; r++) {
            Due.is("1: register(" + r + ")", x.register(r), 0);
        }
        Due.is("1: told(0, 0)", x.told(0, 0), -1);
        Due.is("1: stages()", x.stages(), 0);
        Due.is("1: fewest()", x.fewest(), 0);
        Due.is("1: out(0)", x.out(0), -6);
        Due.is("1: took(0, 0)", x.took(0, 0), -6);
        Due.is("1: restore(0)", x.restore(0), -3);
        Due.is("1: restore(1)", x.restore(1), -3);
        new StagedTables().table(0);
        Due.is("1: count(0), another object having a table", x.count(0), 0);
    }

    private static void table() {
        StagedTables x = new StagedTables();
        for (int key : new int[] {-1, 6}) {
            Due.is("2: table(" + key + ")", x.table(key), -1);
        }
        for (int key : FAR) {
            Due.is("2: table(" + key + ")", x.table(key), -1);
        }
        Due.is("2: count(0) after refusals", x.count(0), 0);
        for (int t = 0; t < 8; t++) {
            Due.is("2: table " + t, x.table(t % 6), t);
            Due.is("2: its key", x.told(t, 0), t % 6);
            Due.is("2: its entries", x.told(t, 1), 0);
            Due.is("2: its default", x.told(t, 31), 0);
        }
        Due.is("2: a ninth", x.table(0), -4);
        Due.is("2: a ninth with no field", x.table(6), -1);
        Due.is("2: count(0)", x.count(0), 8);
    }

    private static void entryTakesEveryKind() {
        int[][] acts = {{0, -7, 99}, {1, 0, 0}, {1, 5, 255}, {2, 0, 0}, {2, 5, 5}, {3, 0, 0}, {3, 5, 255}, {4, 0, 0},
            {4, 5, 5}, {5, 0, 0}, {5, 5, 3}, {6, 0, 0}, {6, 5, 3}, {7, 0, 0}, {7, 5, 3}, {8, -7, 99}, {9, 99, -7}};
        for (int[] act : acts) {
            StagedTables x = new StagedTables();
            x.table(0);
            Due.is("3: entry of kind " + act[0], x.entry(0, 255, act[0], act[1], act[2]), 1);
            Due.is("3: a second one", x.entry(0, 0, act[0], act[1], act[2]), 2);
            Due.is("3: the first value", x.told(0, 10), 255);
            Due.is("3: the second value", x.told(0, 14), 0);
            Due.is("3: the kind", x.told(0, 11), act[0]);
            boolean plain = act[0] >= 1 && act[0] <= 7;
            Due.is("3: the target", x.told(0, 12), plain ? act[1] : -6);
            Due.is("3: x", x.told(0, 13), plain ? act[2] : -6);
        }
    }

    private static void entryRefuses() {
        StagedTables x = new StagedTables();
        x.table(0);
        int[] greatest = {0, 255, 5, 255, 5, 3, 3, 3};
        for (int kind = 1; kind <= 7; kind++) {
            Due.is("3: x above, kind " + kind, x.entry(0, 0, kind, 0, greatest[kind] + 1), -2);
            Due.is("3: x below, kind " + kind, x.entry(0, 0, kind, 0, -1), -2);
            Due.is("3: target above, kind " + kind, x.entry(0, 0, kind, 6, 0), -2);
            Due.is("3: target below, kind " + kind, x.entry(0, 0, kind, -1, 0), -2);
            for (int far : FAR) {
                Due.is("3: far x, kind " + kind, x.entry(0, 0, kind, 0, far), -2);
                Due.is("3: far target, kind " + kind, x.entry(0, 0, kind, far, 0), -2);
            }
        }
        Due.is("3: kind 10", x.entry(0, 0, 10, 0, 0), -2);
        Due.is("3: value 256", x.entry(0, 256, 0, 0, 0), -2);
        Due.is("3: table 1", x.entry(1, 0, 0, 0, 0), -1);
        for (int far : FAR) {
            Due.is("3: far kind", x.entry(0, 0, far, 0, 0), -2);
            Due.is("3: far value", x.entry(0, far, 0, 0, 0), -2);
            Due.is("3: far table", x.entry(far, 0, 0, 0, 0), -1);
        }
        Due.is("3: entries after refusals", x.told(0, 1), 0);
        Due.is("3: fields written after refusals", x.told(0, 4), 0);
    }

    private static void entryRefusesInOrder() {
        StagedTables x = new StagedTables();
        x.table(0);
        x.table(1);
        x.otherwise(1, 5, 0, 2);
        for (int v = 0; v < 4; v++) {
            Due.is("3: entry " + v, x.entry(0, v, 5, 1, 1), v + 1);
        }
        Due.is("3: unknown before outside", x.entry(2, 256, 10, 6, 4), -1);
        Due.is("3: outside before no", x.entry(0, 3, 5, 6, 2), -2);
        Due.is("3: a value that is there, before full", x.entry(0, 3, 0, 0, 0), -5);
        Due.is("3: another table's register, before full", x.entry(0, 9, 7, 0, 2), -5);
        Due.is("3: full", x.entry(0, 9, 7, 0, 1), -4);
        Due.is("3: x is a register for 5 to 7 alone", x.entry(1, 1, 1, 0, 1), 1);
        Due.is("3: a register of other entries", x.entry(1, 2, 6, 0, 1), -5);
        Due.is("3: a register of nobody", x.entry(1, 2, 6, 0, 0), 2);
        Due.is("3: the same value in another table", x.told(1, 14), 2);
    }

    private static void otherwise() {
        StagedTables x = new StagedTables();
        x.table(0);
        x.table(0);
        Due.is("4: otherwise at first", x.otherwise(0, 5, 1, 3), 0);
        Due.is("4: otherwise then", x.otherwise(0, 3, 2, 255), 5);
        Due.is("4: kind", x.told(0, 31), 3);
        Due.is("4: target", x.told(0, 32), 2);
        Due.is("4: x", x.told(0, 33), 255);
        Due.is("4: the register is free again", x.otherwise(1, 6, 0, 3), 0);
        Due.is("4: another table's register", x.otherwise(0, 7, 0, 3), -5);
        Due.is("4: its own register", x.otherwise(1, 7, 4, 3), 6);
        Due.is("4: unknown before outside", x.otherwise(2, 10, 9, 9), -1);
        Due.is("4: unknown", x.otherwise(-1, 0, 0, 0), -1);
        Due.is("4: outside before no", x.otherwise(0, 7, 6, 3), -2);
        int[][] outside = {{10, 0, 0}, {-1, 0, 0}, {1, 6, 0}, {1, -1, 0}, {1, 0, 256}, {1, 0, -1}, {2, 0, 6}, {3, 0, 256},
            {4, 0, 6}, {5, 0, 4}, {6, 0, 4}, {7, 0, 4}, {5, 0, -1}};
        for (int[] act : outside) {
            Due.is("4: outside, kind " + act[0], x.otherwise(0, act[0], act[1], act[2]), -2);
        }
        Due.is("4: kind after refusals", x.told(0, 31), 3);
        Due.is("4: no matter", x.otherwise(0, 8, -9, 999), 3);
        Due.is("4: target, no matter", x.told(0, 32), -6);
        Due.is("4: x, no matter", x.told(0, 33), -6);
        Due.is("4: no matter again", x.otherwise(0, 9, 999, -9), 8);
        Due.is("4: nothing", x.otherwise(0, 0, 999, -9), 9);
        Due.is("4: was nothing", x.otherwise(0, 1, 0, 0), 0);
        Due.is("4: entries", x.told(0, 1), 0);
    }

    private static void forget() {
        StagedTables x = new StagedTables();
        x.table(0);
        Due.is("5: no entry", x.forget(0, 0), -2);
        for (int e = 0; e < 4; e++) {
            x.entry(0, 10 + e, 5, e, e);
        }
        Due.is("5: entry 4 of four, not the default", x.forget(0, 4), -2);
        Due.is("5: entry -1", x.forget(0, -1), -2);
        Due.is("5: unknown before outside", x.forget(1, 9), -1);
        for (int far : FAR) {
            Due.is("5: far entry", x.forget(0, far), -2);
            Due.is("5: far table", x.forget(far, 0), -1);
        }
        Due.is("5: forget the second", x.forget(0, 1), 3);
        int[] values = {10, 12, 13};
        for (int e = 0; e < 3; e++) {
            Due.is("5: value " + e, x.told(0, 10 + 4 * e), values[e]);
            Due.is("5: target " + e, x.told(0, 12 + 4 * e), values[e] - 10);
            Due.is("5: x " + e, x.told(0, 13 + 4 * e), values[e] - 10);
        }
        Due.is("5: the fourth is no more", x.told(0, 22), -2);
        Due.is("5: fields written", x.told(0, 4), 13);
        Due.is("5: registers", x.told(0, 6), 13);
        x.table(1);
        Due.is("5: its register is free", x.otherwise(1, 5, 0, 1), 0);
        Due.is("5: its value is free, it comes last", x.entry(0, 11, 0, 0, 0), 4);
        Due.is("5: the last value", x.told(0, 22), 11);
        for (int left = 3; left >= 0; left--) {
            Due.is("5: forget the first", x.forget(0, 0), left);
        }
        Due.is("5: fields written by none", x.told(0, 4), 0);
    }

    private static void drop() {
        StagedTables x = new StagedTables();
        Due.is("6: no table", x.drop(0), -1);
        for (int t = 0; t < 8; t++) {
            x.table(t % 6);
        }
        x.entry(2, 7, 5, 1, 3);
        x.otherwise(2, 1, 3, 9);
        x.entry(3, 8, 1, 4, 77);
        Due.is("6: table 8", x.drop(8), -1);
        for (int far : FAR) {
            Due.is("6: far table", x.drop(far), -1);
        }
        Due.is("6: drop(2)", x.drop(2), 7);
        int[] keys = {0, 1, 3, 4, 5, 0, 1};
        for (int t = 0; t < 7; t++) {
            Due.is("6: key " + t, x.told(t, 0), keys[t]);
        }
        Due.is("6: the value behind it", x.told(2, 10), 8);
        Due.is("6: its target", x.told(2, 12), 4);
        Due.is("6: the last is no more", x.told(7, 0), -1);
        Due.is("6: room for one", x.table(2), 7);
        Due.is("6: it has no entries of old", x.told(7, 1), 0);
        Due.is("6: no default of old", x.told(7, 31), 0);
        Due.is("6: no register of old", x.told(7, 6), 0);
        Due.is("6: the register is free", x.entry(0, 0, 6, 0, 3), 1);
        for (int left = 7; left >= 0; left--) {
            Due.is("6: drop the last", x.drop(left), left);
        }
    }

    private static void rule() {
        int[] first = {10, 2, 8, 3};
        int[] least = {5, 1, 1, 1};
        int[] greatest = {20, 4, 8, 4};
        StagedTables x = new StagedTables();
        for (int what = 0; what < 4; what++) {
            Due.is("7: below " + what, x.rule(what, least[what] - 1), -2);
            Due.is("7: above " + what, x.rule(what, greatest[what] + 1), -2);
            for (int far : FAR) {
                Due.is("7: far " + what, x.rule(what, far), -2);
            }
            Due.is("7: least " + what, x.rule(what, least[what]), first[what]);
            Due.is("7: greatest " + what, x.rule(what, greatest[what]), least[what]);
            Due.is("7: it is", x.count(what + 1), greatest[what]);
        }
        Due.is("7: what -1", x.rule(-1, 3), -2);
        Due.is("7: what 4", x.rule(4, 3), -2);
        for (int far : FAR) {
            Due.is("7: far what", x.rule(far, 3), -2);
        }
    }

    private static void toldOfTheTable() {
        int[] writes = {0, 2, 2, 2, 2, 2, 2, 2, 0, 0};
        int[] reads = {1, 1, 1 + 8, 1 + 2, 1 + 2 + 8, 1, 1 + 2, 1 + 2, 1, 1};
        int[] registers = {0, 0, 0, 0, 0, 8, 8, 8, 0, 0};
        for (int kind = 0; kind < 10; kind++) {
            StagedTables x = new StagedTables();
            x.table(0);
            x.otherwise(0, kind, 1, 3);
            toldSets(x, kind, writes[kind], reads[kind], registers[kind]);
            x.otherwise(0, 0, 0, 0);
            toldSets(x, kind, 0, 1, 0);
            x.entry(0, 9, kind, 1, 3);
            toldSets(x, kind, writes[kind], reads[kind], registers[kind]);
        }
        StagedTables x = new StagedTables();
        x.table(5);
        x.entry(0, 1, 2, 0, 1);
        x.entry(0, 2, 4, 2, 3);
        x.entry(0, 3, 5, 4, 0);
        x.otherwise(0, 6, 5, 2);
        toldSets(x, 99, 1 + 4 + 16 + 32, 2 + 4 + 8 + 32, 1 + 4);
        Due.is("8: entries", x.told(0, 1), 3);
        Due.is("8: key", x.told(0, 0), 5);
    }

    private static void toldSets(StagedTables x, int kind, int writes, int reads, int registers) {
        Due.is("8: fields written, kind " + kind, x.told(0, 4), writes);
        Due.is("8: fields read, kind " + kind, x.told(0, 5), reads);
        Due.is("8: registers, kind " + kind, x.told(0, 6), registers);
    }

    private static void toldOfItsActs() {
        StagedTables x = new StagedTables();
        x.table(0);
        for (int e = 0; e < 4; e++) {
            Due.is("8: no such entry, value", x.told(0, 10 + 4 * e), -2);
            Due.is("8: no such entry, kind", x.told(0, 11 + 4 * e), -2);
            Due.is("8: no such entry, target", x.told(0, 12 + 4 * e), -2);
            Due.is("8: no such entry, x", x.told(0, 13 + 4 * e), -2);
            x.entry(0, 100 + e, e + 1, e + 2, e);
            Due.is("8: value", x.told(0, 10 + 4 * e), 100 + e);
            Due.is("8: kind", x.told(0, 11 + 4 * e), e + 1);
            Due.is("8: target", x.told(0, 12 + 4 * e), e + 2);
            Due.is("8: x", x.told(0, 13 + 4 * e), e);
        }
        Due.is("8: default's kind", x.told(0, 31), 0);
        Due.is("8: default's target", x.told(0, 32), -6);
        Due.is("8: default's x", x.told(0, 33), -6);
        x.otherwise(0, 2, 4, 5);
        Due.is("8: default's kind", x.told(0, 31), 2);
        Due.is("8: default's target", x.told(0, 32), 4);
        Due.is("8: default's x", x.told(0, 33), 5);
    }

    private static void toldRefuses() {
        StagedTables x = new StagedTables();
        x.table(0);
        for (int e = 0; e < 4; e++) {
            x.entry(0, e, 0, 0, 0);
        }
        for (int what : new int[] {-2, -1, 7, 8, 9, 26, 27, 28, 29, 30, 34, 35}) {
            Due.is("8: told(0, " + what + ")", x.told(0, what), -2);
        }
        for (int far : FAR) {
            Due.is("8: far what", x.told(0, far), -2);
            Due.is("8: far table", x.told(far, 0), -1);
        }
        Due.is("8: unknown before outside", x.told(1, 7), -1);
        x.table(1);
        x.rule(1, 1);
        x.rule(2, 1);
        Due.is("8: stage, not packed", x.told(0, 3), -3);
        Due.is("8: level, not packed", x.told(1, 2), 0);
        Due.is("8: unknown before state", x.told(2, 3), -1);
        Due.is("8: outside, not packed", x.told(0, 7), -2);
    }

    private static void levels() {
        StagedTables x = new StagedTables();
        x.table(0);
        x.otherwise(0, 1, 1, 0);
        x.table(1);
        x.otherwise(1, 1, 2, 0);
        x.table(5);
        x.otherwise(2, 2, 3, 2);
        x.table(4);
        x.otherwise(3, 1, 4, 0);
        x.table(5);
        x.otherwise(4, 1, 0, 0);
        int[] want = {0, 1, 2, 0, 0};
        for (int t = 0; t < want.length; t++) {
            Due.is("8: level " + t, x.told(t, 2), want[t]);
        }
        Due.is("8: a need of 1 makes no level, but a stage no less", x.needs(0, 4), 1);
        x.otherwise(4, 1, 3, 0);
        Due.is("8: the greatest level and one", x.told(4, 2), 3);
        x.rule(2, 1);
        Due.is("8: levels without stages", x.told(4, 2), 3);
        x.otherwise(0, 0, 0, 0);
        Due.is("8: levels go down", x.told(4, 2), 2);
        x.drop(0);
        Due.is("8: levels by other numbers", x.told(3, 2), 2);
        x.drop(0);
        Due.is("8: levels go down again", x.told(2, 2), 1);
    }

    private static void needs() {
        StagedTables x = new StagedTables();
        x.table(0);
        x.table(1);
        Due.is("9: nothing", x.needs(0, 1), 0);
        x.otherwise(0, 1, 1, 0);
        Due.is("9: the key", x.needs(0, 1), 3);
        Due.is("9: the other way round", x.needs(1, 0), 3);
        x.otherwise(0, 1, 2, 0);
        Due.is("9: another field", x.needs(0, 1), 0);
        x.otherwise(1, 2, 3, 2);
        Due.is("9: a field that is read", x.needs(0, 1), 2);
        x.otherwise(1, 1, 2, 0);
        Due.is("9: a field that is written", x.needs(0, 1), 2);
        x.otherwise(0, 2, 3, 2);
        Due.is("9: it writes what the earlier reads", x.needs(0, 1), 1);
        Due.is("9: it writes what the earlier reads, the other way round", x.needs(1, 0), 1);
        x.otherwise(0, 0, 0, 0);
        x.otherwise(1, 1, 0, 0);
        Due.is("9: it writes the earlier one's key", x.needs(0, 1), 1);
        x.otherwise(0, 3, 1, 1);
        Due.is("9: the greatest that fits", x.needs(0, 1), 3);
        Due.is("9: one", x.needs(0, 0), -2);
        Due.is("9: unknown before outside", x.needs(2, 2), -1);
        Due.is("9: the first unknown", x.needs(2, 0), -1);
        Due.is("9: the second unknown", x.needs(0, 2), -1);
        for (int far : FAR) {
            Due.is("9: far", x.needs(far, 0), -1);
            Due.is("9: far", x.needs(0, far), -1);
        }
    }

    private static void needsCountEveryAct() {
        StagedTables x = new StagedTables();
        x.table(0);
        x.table(1);
        x.entry(0, 1, 8, 0, 0);
        x.entry(0, 2, 1, 1, 0);
        Due.is("9: an entry that writes the key", x.needs(0, 1), 3);
        x.forget(0, 1);
        Due.is("9: it is forgotten", x.needs(0, 1), 0);
        x.entry(0, 2, 1, 4, 0);
        x.entry(1, 2, 6, 4, 0);
        Due.is("9: an entry that reads", x.needs(0, 1), 2);
        x.table(2);
        x.otherwise(2, 1, 3, 0);
        Due.is("9: not packed is no matter", x.rule(2, 1), 8);
        Due.is("9: needs, not packed", x.needs(0, 1), 2);
        Due.is("9: none", x.needs(0, 2), 0);
        Due.is("9: the one dropped", x.drop(1), 2);
        Due.is("9: none again", x.needs(0, 1), 0);
    }
}
