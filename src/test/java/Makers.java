/** Objects in the states in which the edges are looked at; each takes fewer than 100 calls. */
final class Makers {
    private Makers() {
    }

    static StagedTables fresh() {
        return new StagedTables();
    }

    /** Tables with so many entries each (which drop packets, and so need nothing), keys 0 to 5 in turn. */
    static StagedTables bare(int... entries) {
        StagedTables x = new StagedTables();
        for (int t = 0; t < entries.length; t++) {
            x.table(t % 6);
            for (int e = 0; e < entries[t]; e++) {
                x.entry(t, 100 + e, 8, 0, 0);
            }
        }
        return x;
    }

    /** Two tables, one with an entry, one with a register; a packet was done; image 0 is kept. */
    static StagedTables small() {
        StagedTables x = new StagedTables();
        x.table(0);
        x.entry(0, 7, 3, 1, 5);
        x.table(1);
        x.otherwise(1, 5, 2, 2);
        x.tell(0, 7);
        x.tell(4, 99);
        x.put(2, 500);
        x.image(0);
        x.rule(3, 2);
        x.run();
        return x;
    }

    /** Eight tables with four entries each, all registers taken, four rounds done; both images are kept. */
    static StagedTables full() {
        StagedTables x = new StagedTables();
        x.rule(0, 20);
        x.rule(1, 1);
        x.rule(3, 4);
        x.image(1);
        for (int t = 0; t < 8; t++) {
            x.table(t % 6);
            for (int e = 0; e < 4; e++) {
                x.entry(t, 60 * e + t, t < 4 ? 5 + e % 3 : 1 + e, (t + e) % 6, t < 4 ? t : e);
            }
            x.otherwise(t, t == 7 ? 9 : 3, t % 6, 1);
        }
        for (int f = 0; f < 6; f++) {
            x.tell(f, 250 - f);
        }
        x.image(0);
        x.run();
        return x;
    }

    /** As full(), but a stage too few. */
    static StagedTables notPacked() {
        StagedTables x = full();
        x.rule(2, 7);
        return x;
    }
}
