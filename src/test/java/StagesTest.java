/** Promises 10 to 12: stages. */
public final class StagesTest {
    private StagesTest() {
    }

    public static void main(String[] args) {
        noTables();
        needsPartStages();
        aNeedOfOneKeepsOrder();
        everyNeedCounts();
        wideAndRoom();
        notPacked();
        eightStages();
        stageRefuses();
        fewestBeatsPacking();
        fewestKeepsNeeds();
        fewestPutsTheFirstLast();
        fewestOfEight();
        Due.end();
    }

    private static StagedTables bare(int... entries) {
        StagedTables x = new StagedTables();
        for (int t = 0; t < entries.length; t++) {
            x.table(t % 6);
            for (int e = 0; e < entries[t]; e++) {
                x.entry(t, e, 8, 0, 0);
            }
        }
        return x;
    }

    private static void packedAs(String what, StagedTables x, int[] places) {
        int[] sets = new int[8];
        int[] sizes = new int[8];
        int used = 0;
        for (int t = 0; t < places.length; t++) {
            Due.is(what + ": stage of table " + t, x.told(t, 3), places[t]);
            used |= 1 << places[t];
            sets[places[t]] |= 1 << t;
            sizes[places[t]] += x.told(t, 1) + 1;
        }
        Due.is(what + ": stages()", x.stages(), Integer.bitCount(used));
        for (int s = 0; s < 8; s++) {
            Due.is(what + ": tables of stage " + s, x.stage(s, 0), sets[s]);
            Due.is(what + ": sizes of stage " + s, x.stage(s, 1), sizes[s]);
        }
    }

    private static void noTables() {
        StagedTables x = new StagedTables();
        packedAs("10: no tables", x, new int[] {});
        Due.is("12: no tables", x.fewest(), 0);
        Due.is("21: packed", x.count(8), 1);
    }

    private static void needsPartStages() {
        StagedTables x = bare(1, 1, 1);
        x.rule(1, 4);
        packedAs("10: none needs any", x, new int[] {0, 0, 0});
        x.otherwise(0, 1, 1, 0);
        packedAs("10: 1 needs 3 of 0", x, new int[] {0, 1, 0});
        x.otherwise(1, 3, 4, 1);
        x.otherwise(2, 1, 4, 0);
        packedAs("10: 2 needs 2 of 1", x, new int[] {0, 1, 2});
        Due.is("12: a chain", x.fewest(), 3);
    }

    private static void aNeedOfOneKeepsOrder() {
        StagedTables x = bare(0, 0, 0);
        x.otherwise(0, 1, 1, 0);
        x.otherwise(2, 1, 1, 0);
        Due.is("10: needs(0, 2)", x.needs(0, 2), 2);
        packedAs("10: 2 needs 2 of 0", x, new int[] {0, 1, 1});
        x.otherwise(2, 1, 3, 0);
        packedAs("10: 2 needs nothing", x, new int[] {0, 1, 0});
        x.otherwise(1, 2, 5, 3);
        Due.is("10: needs(1, 2)", x.needs(1, 2), 1);
        packedAs("10: 2 needs 1 of 1, which is in stage 1", x, new int[] {0, 1, 1});
        x.rule(1, 1);
        packedAs("10: and it is full", x, new int[] {0, 1, 2});
    }

    private static void everyNeedCounts() {
        StagedTables x = bare(0, 0, 0, 0);
        x.rule(1, 4);
        x.otherwise(0, 1, 1, 0);
        x.otherwise(1, 1, 4, 0);
        x.otherwise(2, 1, 5, 0);
        packedAs("10: before there are needs", x, new int[] {0, 1, 0, 0});
        x.otherwise(3, 4, 4, 5);
        packedAs("10: 3 needs 2 of 1 and of 2", x, new int[] {0, 1, 0, 2});
        Due.is("12: 3 needs 2 of 1 and of 2", x.fewest(), 3);
        x.otherwise(1, 2, 4, 3);
        x.otherwise(3, 0, 0, 0);
        x.entry(3, 1, 1, 1, 0);
        x.entry(3, 2, 1, 2, 0);
        Due.is("10: needs(0, 3)", x.needs(0, 3), 2);
        x.otherwise(0, 1, 1, 0);
        packedAs("10: 3 needs 2 of 0, 1 of 1 and of 2", x, new int[] {0, 1, 0, 1});
        x.drop(0);
        x.table(5);
        x.otherwise(3, 1, 1, 0);
        packedAs("10: 3 needs 3 of the one that was 2", x, new int[] {0, 0, 0, 1});
    }

    private static void wideAndRoom() {
        StagedTables x = bare(4, 4, 4, 1, 0);
        packedAs("10: room 10, wide 2", x, new int[] {0, 0, 1, 1, 2});
        x.rule(1, 1);
        packedAs("10: wide 1", x, new int[] {0, 1, 2, 3, 4});
        x.rule(1, 4);
        packedAs("10: wide 4, no room", x, new int[] {0, 0, 1, 1, 1});
        x.rule(0, 20);
        packedAs("10: room 20", x, new int[] {0, 0, 0, 0, 1});
        x.rule(0, 5);
        packedAs("10: room 5", x, new int[] {0, 1, 2, 3, 3});
        x.rule(0, 9);
        packedAs("10: room 9", x, new int[] {0, 1, 2, 0, 0});
        x.rule(0, 7);
        packedAs("10: room 7", x, new int[] {0, 1, 2, 0, 1});
    }

    private static void notPacked() {
        StagedTables x = bare(4, 4, 4, 4, 4);
        x.rule(2, 3);
        packedAs("10: just enough", x, new int[] {0, 0, 1, 1, 2});
        Due.is("10: rule(2, 2)", x.rule(2, 2), 3);
        Due.is("10: stages(), not packed", x.stages(), -3);
        Due.is("11: stage(0, 0), not packed", x.stage(0, 0), -3);
        Due.is("11: stage(7, 1), not packed", x.stage(7, 1), -3);
        Due.is("11: outside before state", x.stage(8, 0), -2);
        Due.is("11: outside before state", x.stage(0, 2), -2);
        Due.is("12: fewest(), STAGES is no matter", x.fewest(), 3);
        Due.is("21: count(8)", x.count(8), 0);
        Due.is("8: told(0, 3)", x.told(0, 3), -3);
        x.drop(0);
        packedAs("10: packed again", x, new int[] {0, 0, 1, 1});
    }

    private static void eightStages() {
        StagedTables x = bare(4, 4, 4, 4, 4, 4, 4, 4);
        x.rule(1, 1);
        packedAs("10: eight stages", x, new int[] {0, 1, 2, 3, 4, 5, 6, 7});
        Due.is("12: eight stages", x.fewest(), 8);
        x.rule(2, 7);
        Due.is("10: seven are not enough", x.stages(), -3);
    }

    private static void stageRefuses() {
        StagedTables x = bare(0);
        for (int i : new int[] {-1, 8, 1000, Integer.MIN_VALUE, Integer.MAX_VALUE}) {
            Due.is("11: stage(" + i + ", 0)", x.stage(i, 0), -2);
        }
        for (int what : new int[] {-1, 2, 1000, Integer.MIN_VALUE, Integer.MAX_VALUE}) {
            Due.is("11: stage(0, " + what + ")", x.stage(0, what), -2);
        }
        x.rule(2, 1);
        Due.is("11: a stage above STAGES has no tables", x.stage(7, 0), 0);
        Due.is("11: a stage above STAGES has no sizes", x.stage(7, 1), 0);
    }

    private static void fewestBeatsPacking() {
        StagedTables x = bare(1, 1, 4, 4);
        x.rule(0, 7);
        x.rule(1, 4);
        Due.is("10: the least stage with room", x.stages(), 3);
        Due.is("12: other ways are better", x.fewest(), 2);
        x.rule(1, 1);
        Due.is("12: WIDE counts", x.fewest(), 4);
        x.rule(1, 2);
        x.rule(0, 6);
        Due.is("12: ROOM counts", x.fewest(), 3);
    }

    private static void fewestKeepsNeeds() {
        StagedTables x = new StagedTables();
        x.table(0);
        x.otherwise(0, 1, 1, 0);
        x.table(1);
        x.otherwise(1, 2, 3, 2);
        x.table(0);
        x.table(2);
        Due.is("12: 2 needs nothing yet", x.fewest(), 2);
        x.otherwise(2, 1, 2, 0);
        Due.is("12: needs(1, 2)", x.needs(1, 2), 1);
        Due.is("12: needs(2, 3)", x.needs(2, 3), 3);
        Due.is("12: 2 is no less than 1, and 3 is greater than 2", x.fewest(), 3);
        x.rule(1, 4);
        Due.is("12: a need of 1 may be in one stage", x.fewest(), 3);
        x.otherwise(0, 0, 0, 0);
        Due.is("12: 1 needs nothing now", x.fewest(), 2);
    }

    private static void fewestPutsTheFirstLast() {
        StagedTables x = bare(4, 4, 1);
        x.otherwise(1, 1, 2, 0);
        x.rule(0, 7);
        packedAs("12: by rising numbers", x, new int[] {0, 1, 2});
        Due.is("12: 0 and 2 behind 1", x.fewest(), 2);
        StagedTables y = bare(4, 4, 1);
        y.otherwise(1, 1, 2, 0);
        y.otherwise(2, 1, 0, 0);
        y.rule(0, 7);
        Due.is("12: needs(0, 2)", y.needs(0, 2), 1);
        Due.is("12: 0 and 2, which may join it, behind 1", y.fewest(), 2);
    }

    private static void fewestOfEight() {
        StagedTables x = bare(2, 2, 2, 2, 2, 2, 2, 2);
        int[] wants = {8, 4, 3, 3};
        for (int wide = 1; wide <= 4; wide++) {
            x.rule(1, wide);
            Due.is("12: eight tables of size 3, wide " + wide, x.fewest(), wants[wide - 1]);
        }
        x.rule(0, 20);
        Due.is("12: eight tables, wide 4, room 20", x.fewest(), 2);
        for (int t = 0; t < 8; t++) {
            x.otherwise(t, 1, 0, t);
        }
        Due.is("12: eight tables that write one field", x.fewest(), 8);
    }
}
