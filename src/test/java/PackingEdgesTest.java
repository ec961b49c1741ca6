/** Part 2 of the document: needs, levels, and programs that are just packed and just not. */
public final class PackingEdgesTest {
    private static final int OUTSIDE = -2, STATE = -3;

    private PackingEdgesTest() {
    }

    public static void main(String[] args) {
        aNeedOfThree();
        aNeedOfTwo();
        aNeedOfOne();
        noNeed();
        theGreatestThatFits();
        levels();
        rulesAtFirst();
        roomIsFiveToTwenty();
        wideIsOneToFour();
        stagesAreOneToEight();
        roomJustFits();
        wideJustFits();
        stagesJustSuffice();
        eightStagesAlwaysSuffice();
        greaterThanAllOfWhichItNeedsTwoOrThree();
        noLessThanAllOfWhichItNeedsOne();
        allEarlierOnesCount();
        theLeastStageThatFits();
        oneTableTooManyAndNoneIsPacked();
        Due.end();
    }

    /** Two tables with keys and one act each: what the later one needs. */
    private static int need(int[] earlier, int[] later) {
        StagedTables x = new StagedTables();
        x.table(earlier[0]);
        x.otherwise(0, earlier[1], earlier[2], earlier[3]);
        x.table(later[0]);
        x.otherwise(1, later[1], later[2], later[3]);
        int need = x.needs(0, 1);
        Due.is("needs the other way round", x.needs(1, 0), need);
        Due.is("its LEVEL", x.told(1, 2), need >= 2 ? 1 : 0);
        Due.is("its STAGE", x.told(1, 3), need >= 2 ? 1 : 0);
        Due.is("FEWEST", x.fewest(), need >= 2 ? 2 : 1);
        return need;
    }

    /** "3: the EARLIER one WRITES the KEY of the LATER one". */
    private static void aNeedOfThree() {
        for (int kind = 0; kind <= 9; kind++) {
            boolean writes = kind >= 1 && kind <= 7;
            Due.is("kind " + kind + " on the KEY", need(new int[] {0, kind, 4, 1}, new int[] {4, 0, 0, 0}), writes ? 3 : 0);
            Due.is("kind " + kind + " on another", need(new int[] {0, kind, 5, 1}, new int[] {4, 0, 0, 0}), 0);
        }
    }

    /** "2: it WRITES a FIELD that the LATER one READS or WRITES". */
    private static void aNeedOfTwo() {
        for (int kind = 0; kind <= 9; kind++) {
            boolean touches = kind >= 1 && kind <= 7;
            Due.is("then kind " + kind, need(new int[] {0, 1, 4, 1}, new int[] {5, kind, 4, 3}), touches ? 2 : 0);
            boolean readsX = kind == 2 || kind == 4;
            Due.is("then x, kind " + kind, need(new int[] {0, 1, 3, 1}, new int[] {5, kind, 4, 3}), readsX ? 2 : 0);
        }
    }

    /** "1: the LATER one WRITES a FIELD that the EARLIER one READS". */
    private static void aNeedOfOne() {
        for (int kind = 0; kind <= 9; kind++) {
            boolean writes = kind >= 1 && kind <= 7;
            Due.is("kind " + kind + " on the KEY before", need(new int[] {0, 0, 0, 0}, new int[] {5, kind, 0, 1}), writes ? 1 : 0);
            boolean readsX = kind == 2 || kind == 4;
            Due.is("x before, kind " + kind, need(new int[] {0, kind, 4, 3}, new int[] {5, 1, 3, 1}), readsX ? 1 : 0);
        }
    }

    /** "0 nothing". */
    private static void noNeed() {
        Due.is("one KEY", need(new int[] {2, 0, 0, 0}, new int[] {2, 0, 0, 0}), 0);
        Due.is("both READ", need(new int[] {2, 2, 3, 1}, new int[] {2, 2, 4, 1}), 0);
        Due.is("the EARLIER one READS its KEY", need(new int[] {2, 2, 3, 4}, new int[] {4, 1, 5, 1}), 0);
        Due.is("each its own", need(new int[] {2, 3, 3, 1}, new int[] {4, 3, 5, 1}), 0);
    }

    /** "the greatest that fits". */
    private static void theGreatestThatFits() {
        Due.is("3 and 2", need(new int[] {0, 1, 4, 1}, new int[] {4, 1, 4, 1}), 3);
        Due.is("3 and 1", need(new int[] {0, 1, 4, 1}, new int[] {4, 1, 0, 1}), 3);
        Due.is("2 and 1", need(new int[] {0, 4, 4, 3}, new int[] {5, 4, 3, 4}), 2);
        Due.is("2 and 1, one FIELD", need(new int[] {4, 1, 4, 1}, new int[] {5, 1, 4, 1}), 2);
        StagedTables x = new StagedTables();
        x.table(0);
        x.table(1);
        x.entry(1, 0, 1, 0, 0);
        Due.is("1 by an ENTRY", x.needs(0, 1), 1);
        x.entry(0, 0, 1, 0, 0);
        Due.is("2 by an ENTRY", x.needs(0, 1), 2);
        x.entry(0, 1, 1, 1, 0);
        Due.is("3 by another ENTRY", x.needs(0, 1), 3);
        x.forget(0, 1);
        Due.is("2 again", x.needs(0, 1), 2);
        x.forget(0, 0);
        Due.is("1 again", x.needs(0, 1), 1);
        x.forget(1, 0);
        Due.is("0 again", x.needs(0, 1), 0);
    }

    /** So many tables that write field 5 (keys 0 to 4), each of which needs 2 of all before it. */
    private static StagedTables chain(int tables) {
        StagedTables x = new StagedTables();
        for (int t = 0; t < tables; t++) {
            x.table(t % 5);
            x.otherwise(t, 1, 5, t);
        }
        return x;
    }

    /** "LEVEL of a TABLE: 0, or one more than the greatest LEVEL of the EARLIER TABLES of which it NEEDS 2 or 3." */
    private static void levels() {
        StagedTables x = chain(8);
        for (int t = 0; t < 8; t++) {
            Due.is("LEVEL in a chain", x.told(t, 2), t);
        }
        x.rule(2, 1);
        Due.is("LEVEL, not PACKED", x.told(7, 2), 7);
        x.drop(0);
        Due.is("LEVEL of one that is one less", x.told(6, 2), 6);
        x.otherwise(3, 0, 0, 0);
        Due.is("LEVEL of one that NEEDS nothing any more", x.told(3, 2), 0);
        Due.is("LEVEL of those behind it", x.told(6, 2), 5);
        StagedTables y = new StagedTables();
        y.table(0);
        y.otherwise(0, 1, 1, 0);
        y.table(1);
        y.otherwise(1, 1, 2, 0);
        y.table(0);
        y.otherwise(2, 1, 3, 0);
        y.table(4);
        y.otherwise(3, 4, 3, 2);
        y.table(5);
        y.otherwise(4, 1, 0, 0);
        int[] want = {0, 1, 0, 2, 0};
        for (int t = 0; t < want.length; t++) {
            Due.is("LEVEL " + t, y.told(t, 2), want[t]);
        }
        y.rule(1, 1);
        Due.is("LEVEL is not STAGE", y.told(4, 2), 0);
        Due.is("STAGE is not LEVEL", y.told(4, 3), 4);
    }

    /** "(10 at first) .. (2 at first) .. (8 at first)", and "TIMES .. 3 at first". */
    private static void rulesAtFirst() {
        int[] first = {10, 2, 8, 3};
        for (int what = 0; what < 4; what++) {
            Due.is("at first, " + what, new StagedTables().count(what + 1), first[what]);
            Due.is("it was at first, " + what, new StagedTables().rule(what, first[what]), first[what]);
        }
    }

    private static void ruleIs(int what, int least, int greatest) {
        for (int n = least - 2; n <= greatest + 2; n++) {
            boolean taken = n >= least && n <= greatest;
            StagedTables x = new StagedTables();
            int first = x.count(what + 1);
            Due.is("rule(" + what + ", " + n + ")", x.rule(what, n), taken ? first : OUTSIDE);
            Due.is("count, rule(" + what + ", " + n + ")", x.count(what + 1), taken ? n : first);
            for (int other = 0; other < 4; other++) {
                if (other != what) {
                    Due.is("another rule", x.count(other + 1), new StagedTables().count(other + 1));
                }
            }
        }
    }

    /** "ROOM is 5 to 20". */
    private static void roomIsFiveToTwenty() {
        ruleIs(0, 5, 20);
        StagedTables x = Makers.bare(4, 4, 4, 4);
        x.rule(1, 4);
        x.rule(0, 20);
        Due.is("ROOM 20 has four of SIZE 5", x.stages(), 1);
        Due.is("SIZES", x.stage(0, 1), 20);
        x.rule(0, 19);
        Due.is("ROOM 19 has not", x.stages(), 2);
        x.rule(0, 5);
        Due.is("ROOM 5 has one of SIZE 5", x.stages(), 4);
    }

    /** "WIDE 1 to 4". */
    private static void wideIsOneToFour() {
        ruleIs(1, 1, 4);
    }

    /** "STAGES 1 to 8". */
    private static void stagesAreOneToEight() {
        ruleIs(2, 1, 8);
        StagedTables x = Makers.bare(1);
        x.rule(2, 1);
        Due.is("one STAGE", x.stages(), 1);
        Due.is("its STAGE", x.told(0, 3), 0);
    }

    /** "whose SIZES and its own are together no more than ROOM". */
    private static void roomJustFits() {
        for (int a = 1; a <= 5; a++) {
            for (int b = 1; b <= 5; b++) {
                for (int room = 5; room <= 11; room++) {
                    StagedTables x = Makers.bare(a - 1, b - 1);
                    x.rule(0, room);
                    int want = a + b <= room ? 1 : 2;
                    String what = "SIZES " + a + " and " + b + " in ROOM " + room;
                    Due.is(what, x.stages(), want);
                    Due.is(what + ": STAGE", x.told(1, 3), want - 1);
                    Due.is(what + ": SIZES of STAGE 0", x.stage(0, 1), want == 1 ? a + b : a);
                    Due.is(what + ": SIZES of STAGE 1", x.stage(1, 1), want == 1 ? 0 : b);
                    Due.is(what + ": FEWEST", x.fewest(), want);
                }
            }
        }
        StagedTables x = Makers.bare(3, 2, 1, 0);
        x.rule(1, 4);
        Due.is("4, 3, 2 and 1 are 10", x.stages(), 1);
        x.entry(3, 9, 0, 0, 0);
        Due.is("one ENTRY more", x.stages(), 2);
        Due.is("it is the last that moves", x.stage(1, 0), 8);
    }

    /** "in which there are fewer than WIDE TABLES". */
    private static void wideJustFits() {
        for (int wide = 1; wide <= 4; wide++) {
            for (int tables = 0; tables <= 8; tables++) {
                StagedTables x = Makers.bare(new int[tables]);
                x.rule(1, wide);
                int want = (tables + wide - 1) / wide;
                Due.is(tables + " TABLES, WIDE " + wide, x.stages(), want);
                Due.is(tables + " TABLES, WIDE " + wide + ": FEWEST", x.fewest(), want);
                for (int t = 0; t < tables; t++) {
                    Due.is(tables + " TABLES, WIDE " + wide + ": STAGE of " + t, x.told(t, 3), t / wide);
                }
            }
        }
    }

    /** "If that would be a STAGE that is not less than STAGES, the program is not PACKED." */
    private static void stagesJustSuffice() {
        for (int tables = 0; tables <= 8; tables++) {
            for (int stages = 1; stages <= 8; stages++) {
                StagedTables x = chain(tables);
                x.rule(2, stages);
                boolean packed = tables <= stages;
                String what = "a chain of " + tables + ", STAGES " + stages;
                Due.is(what + ": PACKED", x.count(8), packed ? 1 : 0);
                Due.is(what + ": stages()", x.stages(), packed ? tables : STATE);
                Due.is(what + ": run()", x.run(), packed ? 0 : STATE);
                Due.is(what + ": FEWEST", x.fewest(), tables);
                for (int t = 0; t < tables; t++) {
                    Due.is(what + ": STAGE of " + t, x.told(t, 3), packed ? t : STATE);
                }
                for (int i = 0; i < 8; i++) {
                    Due.is(what + ": TABLES of " + i, x.stage(i, 0), !packed ? STATE : i < tables ? 1 << i : 0);
                    Due.is(what + ": SIZES of " + i, x.stage(i, 1), !packed ? STATE : i < tables ? 1 : 0);
                }
            }
        }
    }

    /** Each table, at the worst, takes one stage more. */
    private static void eightStagesAlwaysSuffice() {
        StagedTables x = Makers.bare(4, 4, 4, 4, 4, 4, 4, 4);
        x.rule(0, 5);
        x.rule(1, 1);
        for (int t = 0; t < 8; t++) {
            x.otherwise(t, 1, 5, t);
            Due.is("the worst: STAGE of " + t, x.told(t, 3), t);
        }
        Due.is("the worst: PACKED", x.count(8), 1);
        Due.is("the worst: stages()", x.stages(), 8);
        Due.is("the worst: FEWEST", x.fewest(), 8);
        Due.is("a STAGE less", x.rule(2, 7), 8);
        Due.is("is one too few", x.count(8), 0);
        Due.is("a TABLE less", x.drop(7), 7);
        Due.is("is enough", x.count(8), 1);
    }

    /** "greater than those of all EARLIER ones of which it NEEDS 2 or 3". */
    private static void greaterThanAllOfWhichItNeedsTwoOrThree() {
        for (int last = 0; last <= 2; last++) {
            StagedTables x = new StagedTables();
            x.rule(1, 4);
            x.table(0);
            x.otherwise(0, 1, 1, 0);
            x.table(1);
            x.otherwise(1, 1, 2, 0);
            x.table(2);
            x.otherwise(2, 1, 3, 0);
            x.table(5);
            x.otherwise(3, 2, 4, 1 + last);
            Due.is("it NEEDS 2 of " + last, x.needs(last, 3), 2);
            Due.is("its STAGE", x.told(3, 3), last + 1);
            x.table(1 + last);
            Due.is("another NEEDS 3 of " + last, x.needs(last, 4), 3);
            Due.is("its STAGE, too", x.told(4, 3), last + 1);
            x.entry(3, 0, 2, 4, 3);
            x.entry(3, 1, 2, 4, 1);
            Due.is("of all, the greatest", x.told(3, 3), 3);
        }
    }

    /** "and no less than those of all of which it NEEDS 1". */
    private static void noLessThanAllOfWhichItNeedsOne() {
        StagedTables x = new StagedTables();
        x.rule(1, 4);
        x.table(0);
        x.otherwise(0, 1, 1, 0);
        x.table(1);
        x.otherwise(1, 1, 2, 0);
        x.table(2);
        x.otherwise(2, 2, 3, 4);
        x.table(5);
        Due.is("it NEEDS nothing: STAGE", x.told(3, 3), 0);
        x.otherwise(3, 1, 4, 0);
        Due.is("it NEEDS 1 of the one in STAGE 2", x.needs(2, 3), 1);
        Due.is("it is no less", x.told(3, 3), 2);
        Due.is("its LEVEL is 0", x.told(3, 2), 0);
        x.entry(3, 0, 1, 0, 0);
        Due.is("it NEEDS 1 of the first, too", x.needs(0, 3), 1);
        Due.is("the greatest", x.told(3, 3), 2);
        x.otherwise(3, 0, 0, 0);
        Due.is("of the first alone", x.told(3, 3), 0);
        x.otherwise(3, 1, 4, 0);
        x.rule(1, 1);
        Due.is("there is a TABLE already", x.told(3, 3), 3);
        x.rule(2, 3);
        Due.is("and no STAGE more", x.told(3, 3), STATE);
    }

    /** "of all EARLIER ones": the one in the greatest STAGE is not always the one with the greatest number. */
    private static void allEarlierOnesCount() {
        StagedTables x = new StagedTables();
        x.rule(1, 4);
        x.table(0);
        x.otherwise(0, 1, 1, 0);
        x.table(1);
        x.otherwise(1, 1, 2, 0);
        x.table(0);
        x.otherwise(2, 1, 3, 0);
        x.table(5);
        x.entry(3, 0, 2, 4, 2);
        x.entry(3, 1, 2, 4, 3);
        Due.is("2 of the one in STAGE 1", x.needs(1, 3) * 10 + x.told(1, 3), 21);
        Due.is("2 of the one in STAGE 0", x.needs(2, 3) * 10 + x.told(2, 3), 20);
        Due.is("greater than both: STAGE", x.told(3, 3), 2);
        Due.is("greater than both: LEVEL", x.told(3, 2), 2);
        Due.is("greater than both: FEWEST", x.fewest(), 3);
        StagedTables y = new StagedTables();
        y.rule(1, 4);
        y.table(0);
        y.otherwise(0, 1, 1, 0);
        y.table(1);
        y.otherwise(1, 2, 2, 4);
        y.table(3);
        y.table(5);
        y.entry(3, 0, 1, 4, 0);
        y.entry(3, 1, 1, 3, 0);
        y.table(4);
        Due.is("1 of the one in STAGE 1", y.needs(1, 3) * 10 + y.told(1, 3), 11);
        Due.is("1 of the one in STAGE 0", y.needs(2, 3) * 10 + y.told(2, 3), 10);
        Due.is("no less than both: STAGE", y.told(3, 3), 1);
        Due.is("the one behind it: STAGE", y.told(4, 3), 2);
        Due.is("no less than both: FEWEST", y.fewest(), 3);
    }

    /** "each into the least one that ..": also one that was passed by before. */
    private static void theLeastStageThatFits() {
        StagedTables x = Makers.bare(3, 4, 3, 0, 1, 0);
        x.rule(0, 6);
        x.rule(1, 3);
        int[] places = {0, 1, 2, 0, 2, 0};
        for (int t = 0; t < places.length; t++) {
            Due.is("STAGE of " + t, x.told(t, 3), places[t]);
        }
        Due.is("STAGE 0: TABLES", x.stage(0, 0), 1 + 8 + 32);
        Due.is("STAGE 0: SIZES", x.stage(0, 1), 6);
        Due.is("STAGE 1: TABLES", x.stage(1, 0), 2);
        Due.is("STAGE 1: SIZES", x.stage(1, 1), 5);
        Due.is("STAGE 2: TABLES", x.stage(2, 0), 4 + 16);
        Due.is("STAGE 2: SIZES", x.stage(2, 1), 6);
        Due.is("STAGE 3: TABLES", x.stage(3, 0), 0);
        x.rule(1, 2);
        Due.is("WIDE 2: the last goes on", x.told(5, 3), 1);
        Due.is("WIDE 2: STAGE 1", x.stage(1, 0), 2 + 32);
    }

    /** It is the whole program that is not PACKED, though all but one TABLE have their place. */
    private static void oneTableTooManyAndNoneIsPacked() {
        StagedTables x = Makers.bare(0, 0, 0, 0, 0);
        x.rule(2, 2);
        for (int t = 0; t < 5; t++) {
            Due.is("no STAGE of " + t, x.told(t, 3), STATE);
        }
        Due.is("no STAGES", x.stages(), STATE);
        Due.is("no STAGE 0", x.stage(0, 0), STATE);
        x.drop(0);
        Due.is("one less, and all are PACKED", x.stages(), 2);
        Due.is("both are full", x.stage(1, 0), 4 + 8);
        x.table(0);
        Due.is("one more, and none is", x.count(8), 0);
        x.rule(1, 3);
        Due.is("WIDE makes it so", x.count(8), 1);
        x.rule(1, 2);
        x.rule(2, 3);
        Due.is("STAGES make it so", x.count(8), 1);
    }
}
