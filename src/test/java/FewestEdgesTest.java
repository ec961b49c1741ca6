/** Part 2 of the document: the fewest stages. */
public final class FewestEdgesTest {
    private FewestEdgesTest() {
    }

    public static void main(String[] args) {
        noTable();
        oneTable();
        stagesAreNoMatter();
        fewerThanItIsPackedInto();
        notPackedThoughTheFewestWouldDo();
        wideIsMet();
        roomIsMet();
        needsAreMet();
        aNeedOfOneMayBeInOneStage();
        aNeedOfOneIsNoLess();
        theMost();
        askingChangesNothing();
        Due.end();
    }

    private static void noTable() {
        for (int stages = 1; stages <= 8; stages++) {
            StagedTables x = new StagedTables();
            x.rule(2, stages);
            Due.is("no TABLE, STAGES " + stages, x.fewest(), 0);
            Due.is("no TABLE is PACKED", x.count(8), 1);
            Due.is("no TABLE: stages()", x.stages(), 0);
        }
        StagedTables x = Makers.bare(4, 4);
        x.drop(0);
        x.drop(0);
        Due.is("no TABLE any more", x.fewest(), 0);
    }

    private static void oneTable() {
        for (int entries = 0; entries <= 4; entries++) {
            StagedTables x = Makers.bare(entries);
            x.rule(0, 5);
            x.rule(1, 1);
            Due.is("one TABLE", x.fewest(), 1);
        }
    }

    /** "(STAGES is no matter)". */
    private static void stagesAreNoMatter() {
        for (int tables = 1; tables <= 8; tables++) {
            StagedTables x = Makers.bare(new int[tables]);
            x.rule(1, 1);
            for (int stages = 1; stages <= 8; stages++) {
                x.rule(2, stages);
                Due.is(tables + " TABLES, STAGES " + stages, x.fewest(), tables);
                Due.is(tables + " TABLES, STAGES " + stages + ": PACKED", x.count(8), tables <= stages ? 1 : 0);
            }
        }
    }

    /** "in any way": others than by rising numbers, too. */
    private static void fewerThanItIsPackedInto() {
        StagedTables x = Makers.bare(1, 2, 4, 3);
        x.rule(0, 7);
        Due.is("2 and 3, 5, 4", x.stages(), 3);
        Due.is("2 and 5, 3 and 4", x.fewest(), 2);
        StagedTables y = Makers.bare(0, 0, 0);
        y.rule(1, 2);
        y.otherwise(1, 1, 2, 0);
        Due.is("the last NEEDS 3 of the second", y.needs(1, 2), 3);
        Due.is("the first two, then the last", y.stages(), 2);
        Due.is("no fewer", y.fewest(), 2);
        StagedTables z = Makers.bare(0, 0, 0, 0);
        z.otherwise(2, 1, 3, 0);
        Due.is("the last NEEDS 3 of the third", z.needs(2, 3), 3);
        Due.is("two, one, one", z.stages(), 3);
        Due.is("the third goes ahead", z.fewest(), 2);
        StagedTables last = Makers.bare(4, 4, 1);
        last.rule(0, 7);
        last.otherwise(1, 1, 2, 0);
        Due.is("each in its own", last.stages(), 3);
        Due.is("the first goes last, with the third", last.fewest(), 2);
    }

    /** A program that is not PACKED could be put into no more than STAGES in another way. */
    private static void notPackedThoughTheFewestWouldDo() {
        StagedTables x = Makers.bare(1, 2, 4, 3);
        x.rule(0, 7);
        x.rule(2, 2);
        Due.is("not PACKED", x.count(8), 0);
        Due.is("FEWEST is no more than STAGES", x.fewest(), 2);
        Due.is("run()", x.run(), -3);
    }

    private static void wideIsMet() {
        StagedTables x = Makers.bare(0, 0, 0, 0, 0, 0, 0, 0);
        int[] want = {8, 4, 3, 2};
        for (int wide = 1; wide <= 4; wide++) {
            x.rule(1, wide);
            Due.is("eight TABLES, WIDE " + wide, x.fewest(), want[wide - 1]);
        }
        x.drop(0);
        int[] less = {7, 4, 3, 2};
        for (int wide = 1; wide <= 4; wide++) {
            x.rule(1, wide);
            Due.is("seven TABLES, WIDE " + wide, x.fewest(), less[wide - 1]);
        }
    }

    private static void roomIsMet() {
        StagedTables x = Makers.bare(4, 4, 4, 4, 4, 4, 4, 4);
        x.rule(1, 4);
        for (int room = 5; room <= 20; room++) {
            x.rule(0, room);
            int each = room / 5;
            Due.is("eight of SIZE 5, ROOM " + room, x.fewest(), (8 + each - 1) / each);
        }
        StagedTables y = Makers.bare(3, 2, 2, 1, 1, 1);
        y.rule(1, 4);
        y.rule(0, 8);
        Due.is("4 4, 3 3 2 and so on are 16", y.fewest(), 2);
        y.rule(0, 7);
        Due.is("two of 7 are not", y.fewest(), 3);
    }

    private static void needsAreMet() {
        StagedTables x = Makers.bare(0, 0, 0, 0, 0, 0);
        x.rule(1, 4);
        Due.is("no needs", x.fewest(), 2);
        x.otherwise(0, 1, 5, 0);
        Due.is("one NEEDS 3", x.fewest(), 2);
        x.otherwise(1, 2, 4, 5);
        Due.is("the second NEEDS 2 of the first", x.needs(0, 1), 2);
        Due.is("the fifth NEEDS 3 of the second", x.needs(1, 4), 3);
        Due.is("a chain of three", x.fewest(), 3);
        x.otherwise(4, 1, 3, 0);
        Due.is("the fourth is EARLIER and NEEDS nothing", x.needs(3, 4), 1);
        Due.is("a chain of three still", x.fewest(), 3);
        x.otherwise(5, 1, 3, 0);
        Due.is("a chain of four", x.fewest(), 4);
    }

    private static void aNeedOfOneMayBeInOneStage() {
        StagedTables x = Makers.bare(0, 0, 0, 0);
        x.rule(1, 4);
        for (int t = 1; t < 4; t++) {
            x.otherwise(t, 1, t - 1, 0);
            Due.is("it NEEDS 1 of the one before", x.needs(t - 1, t), 1);
        }
        Due.is("all in one", x.fewest(), 1);
        Due.is("PACKED so, too", x.stages(), 1);
        x.rule(1, 3);
        Due.is("WIDE 3", x.fewest(), 2);
    }

    /** The one of which a table needs 1 may not come behind it, however well that would fit. */
    private static void aNeedOfOneIsNoLess() {
        StagedTables x = Makers.bare(0, 0, 0, 0);
        x.otherwise(0, 1, 1, 0);
        x.otherwise(2, 1, 3, 0);
        Due.is("1 behind 0, and 3 behind 2", x.fewest(), 2);
        x.entry(2, 0, 1, 1, 0);
        Due.is("2 behind 0 as well", x.needs(0, 2), 2);
        Due.is("so 3 is in the third", x.fewest(), 3);
        x.forget(2, 0);
        x.otherwise(1, 2, 5, 3);
        Due.is("2 NEEDS 1 of 1", x.needs(1, 2), 1);
        Due.is("so it is no less, and 3 behind it", x.fewest(), 3);
        x.otherwise(2, 0, 0, 0);
        Due.is("without it", x.fewest(), 2);
    }

    private static void theMost() {
        StagedTables x = new StagedTables();
        x.rule(1, 4);
        for (int t = 0; t < 8; t++) {
            x.table(1);
        }
        for (int t = 0; t < 8; t++) {
            x.otherwise(t, 3, 0, 1);
            Due.is("so many add to FIELD 0", x.fewest(), Math.max(t + 1, 2));
        }
    }

    private static void askingChangesNothing() {
        StagedTables x = Makers.full();
        Seen want = Seen.of(Makers.full());
        for (int i = 0; i < 8; i++) {
            Due.is("FEWEST, asked again", x.fewest(), 8);
        }
        Seen.of(x).sameAs("fewest() changes nothing", want);
    }
}
