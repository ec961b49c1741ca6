/** Part 1 of the document: fields, registers, tables, entries and acts at their edges. */
public final class TablesEdgesTest {
    private static final int UNKNOWN = -1, OUTSIDE = -2, FULL = -4, NO = -5, NONE = -6;
    private static final int[] GREATEST_X = {0, 255, 5, 255, 5, 3, 3, 3, 0, 0};

    private TablesEdgesTest() {
    }

    public static void main(String[] args) {
        fieldsAreZeroToFive();
        fieldsAreUpTo255();
        registersAreZeroToThree();
        registersAreUpTo65535();
        tablesAreUpToEight();
        tablesBehindOneThatGoes();
        everyFieldMayBeAKey();
        entriesAreUpToFour();
        entriesBehindOneThatGoes();
        valuesAreUpTo255();
        noTwoValuesAreAlike();
        theDefaultIsNothingAtFirst();
        sizeIsEntriesAndOne();
        kindsAreZeroToNine();
        whatTheTargetMayBe();
        whatXMayBe();
        targetAndXAreNoMatter();
        Due.end();
    }

    /** "six FIELDS, 0 to 5". */
    private static void fieldsAreZeroToFive() {
        for (int f = -1; f <= 6; f++) {
            boolean there = f >= 0 && f <= 5;
            StagedTables x = new StagedTables();
            Due.is("tell(" + f + ", 9)", x.tell(f, 9), there ? 0 : UNKNOWN);
            Due.is("table(" + f + ")", x.table(f), there ? 0 : UNKNOWN);
            Due.is("tables, key " + f, x.count(0), there ? 1 : 0);
            for (int g = 0; g < 6; g++) {
                Due.is("FIELD " + g + " told, behind " + f, x.count(10 + g), g == f ? 9 : 0);
            }
        }
    }

    /** "each 0 to 255". */
    private static void fieldsAreUpTo255() {
        for (int f = 0; f < 6; f++) {
            StagedTables x = new StagedTables();
            x.tell(f, 77);
            Due.is("FIELD " + f + " is not -1", x.tell(f, -1), OUTSIDE);
            Due.is("FIELD " + f + " is not 256", x.tell(f, 256), OUTSIDE);
            Due.is("FIELD " + f + " is 77 still", x.count(10 + f), 77);
            Due.is("FIELD " + f + " may be 0", x.tell(f, 0), 77);
            Due.is("FIELD " + f + " may be 255", x.tell(f, 255), 0);
            Due.is("FIELD " + f + " may be 1", x.tell(f, 1), 255);
            Due.is("FIELD " + f + " was 1", x.tell(f, 254), 1);
            Due.is("FIELD " + f + " is 254", x.count(10 + f), 254);
        }
    }

    /** "REGISTERS are 0 to 3 .. 0 at first". */
    private static void registersAreZeroToThree() {
        for (int r = -1; r <= 4; r++) {
            boolean there = r >= 0 && r <= 3;
            StagedTables x = new StagedTables();
            Due.is("register(" + r + ") at first", x.register(r), there ? 0 : UNKNOWN);
            Due.is("put(" + r + ", 9)", x.put(r, 9), there ? 0 : UNKNOWN);
            for (int s = 0; s < 4; s++) {
                Due.is("REGISTER " + s + ", behind " + r, x.register(s), s == r ? 9 : 0);
            }
        }
    }

    /** "each 0 to 65535". */
    private static void registersAreUpTo65535() {
        for (int r = 0; r < 4; r++) {
            StagedTables x = new StagedTables();
            x.put(r, 777);
            Due.is("REGISTER " + r + " is not -1", x.put(r, -1), OUTSIDE);
            Due.is("REGISTER " + r + " is not 65536", x.put(r, 65536), OUTSIDE);
            Due.is("REGISTER " + r + " is 777 still", x.register(r), 777);
            Due.is("REGISTER " + r + " may be 0", x.put(r, 0), 777);
            Due.is("REGISTER " + r + " may be 65535", x.put(r, 65535), 0);
            Due.is("REGISTER " + r + " may be 65534", x.put(r, 65534), 65535);
            Due.is("REGISTER " + r + " may be 256", x.put(r, 256), 65534);
            Due.is("REGISTER " + r + " is 256", x.register(r), 256);
        }
    }

    /** "up to 8 TABLES, numbered from 0 on". */
    private static void tablesAreUpToEight() {
        StagedTables x = new StagedTables();
        for (int t = 0; t < 8; t++) {
            Due.is("no TABLE " + t + " yet", x.told(t, 0), UNKNOWN);
            Due.is("TABLE " + t, x.table(5 - t % 6), t);
            Due.is("TABLE " + t + " is there", x.told(t, 0), 5 - t % 6);
            Due.is("so many TABLES", x.count(0), t + 1);
        }
        Due.is("a ninth TABLE", x.table(0), FULL);
        Due.is("there is no TABLE 8", x.told(8, 0), UNKNOWN);
        Due.is("eight TABLES still", x.count(0), 8);
        Due.is("one goes", x.drop(3), 7);
        Due.is("an eighth TABLE again", x.table(2), 7);
        Due.is("a ninth TABLE again", x.table(2), FULL);
        for (int left = 7; left >= 0; left--) {
            Due.is("the first goes", x.drop(0), left);
        }
        Due.is("none is left to go", x.drop(0), UNKNOWN);
        Due.is("numbered from 0 on again", x.table(1), 0);
    }

    /** "when one goes, those behind it are one less". */
    private static void tablesBehindOneThatGoes() {
        for (int gone = 0; gone < 8; gone++) {
            StagedTables x = new StagedTables();
            for (int t = 0; t < 8; t++) {
                x.table((t * 5 + 1) % 6);
                x.entry(t, 10 + t, 1, t % 6, 20 + t);
                x.otherwise(t, t < 4 ? 5 : 1, (t + 1) % 6, t % 4);
            }
            Due.is("TABLE " + gone + " goes", x.drop(gone), 7);
            for (int t = 0; t < 7; t++) {
                int was = t < gone ? t : t + 1;
                String what = gone + " gone, TABLE " + t + ": ";
                Due.is(what + "key", x.told(t, 0), (was * 5 + 1) % 6);
                Due.is(what + "entries", x.told(t, 1), 1);
                Due.is(what + "value", x.told(t, 10), 10 + was);
                Due.is(what + "x", x.told(t, 13), 20 + was);
                Due.is(what + "default", x.told(t, 31), was < 4 ? 5 : 1);
                Due.is(what + "default's target", x.told(t, 32), (was + 1) % 6);
                Due.is(what + "registers", x.told(t, 6), was < 4 ? 1 << was : 0);
            }
            Due.is(gone + " gone: the last number is free", x.told(7, 0), UNKNOWN);
            Due.is(gone + " gone: a new one is the last", x.table(4), 7);
            Due.is(gone + " gone: the one before it is as it was", x.told(6, 10), gone == 7 ? 16 : 17);
            Due.is(gone + " gone: the new one has no ENTRY", x.told(7, 1), 0);
            Due.is(gone + " gone: its DEFAULT is NOTHING", x.told(7, 31), 0);
        }
    }

    /** "Each has a KEY (a FIELD)": it is this FIELD whose number is looked for. */
    private static void everyFieldMayBeAKey() {
        for (int key = 0; key < 6; key++) {
            StagedTables x = new StagedTables();
            x.table(key);
            x.entry(0, 42, 0, 0, 0);
            for (int f = 0; f < 6; f++) {
                x.tell(f, 42);
                x.run();
                Due.is("KEY " + key + ", FIELD " + f + " is 42", x.took(0, 0), f == key ? 0 : 4);
                x.tell(f, 43);
            }
        }
    }

    /** "up to four ENTRIES, numbered from 0 on as they came". */
    private static void entriesAreUpToFour() {
        int[] values = {200, 3, 255, 0};
        StagedTables x = new StagedTables();
        x.table(2);
        x.table(3);
        for (int e = 0; e < 4; e++) {
            Due.is("no ENTRY " + e + " yet", x.told(0, 10 + 4 * e), OUTSIDE);
            Due.is("nor one to forget", x.forget(0, e), OUTSIDE);
            Due.is("ENTRY " + e, x.entry(0, values[e], 1, e, e), e + 1);
        }
        Due.is("a fifth ENTRY", x.entry(0, 9, 1, 5, 5), FULL);
        Due.is("four ENTRIES still", x.told(0, 1), 4);
        Due.is("the fifth writes nothing", x.told(0, 4), 15);
        Due.is("none of another TABLE", x.told(1, 1), 0);
        for (int e = 0; e < 4; e++) {
            Due.is("ENTRY " + e + " as it came", x.told(0, 10 + 4 * e), values[e]);
            x.tell(2, values[e]);
            x.run();
            Due.is("ENTRY " + e + " is taken", x.took(0, 0), e);
        }
        Due.is("one goes", x.forget(0, 2), 3);
        Due.is("a fourth ENTRY again", x.entry(0, 9, 1, 5, 5), 4);
        Due.is("a fifth ENTRY again", x.entry(0, 10, 1, 5, 5), FULL);
    }

    /** "(those behind it are one less)". */
    private static void entriesBehindOneThatGoes() {
        for (int gone = 0; gone < 4; gone++) {
            StagedTables x = new StagedTables();
            x.table(0);
            x.otherwise(0, 5, 0, 3);
            for (int e = 0; e < 4; e++) {
                x.entry(0, 90 - e, 1 + e, 1 + e, e);
            }
            Due.is("ENTRY " + gone + " goes", x.forget(0, gone), 3);
            for (int e = 0; e < 3; e++) {
                int was = e < gone ? e : e + 1;
                String what = gone + " gone, ENTRY " + e + ": ";
                Due.is(what + "value", x.told(0, 10 + 4 * e), 90 - was);
                Due.is(what + "kind", x.told(0, 11 + 4 * e), 1 + was);
                Due.is(what + "target", x.told(0, 12 + 4 * e), 1 + was);
                Due.is(what + "x", x.told(0, 13 + 4 * e), was);
                x.tell(0, 90 - was);
                x.run();
                Due.is(what + "taken", x.took(0, 0), e);
            }
            Due.is(gone + " gone: no fourth", x.told(0, 22), OUTSIDE);
            Due.is(gone + " gone: it can not go twice", x.forget(0, 3), OUTSIDE);
            Due.is(gone + " gone: WRITES", x.told(0, 4), 31 - (2 << gone));
            Due.is(gone + " gone: the DEFAULT stays", x.told(0, 31), 5);
            x.tell(0, 90 - gone);
            x.run();
            Due.is(gone + " gone: the DEFAULT is taken", x.took(0, 0), 4);
        }
    }

    /** "a VALUE (0 to 255 ..)". */
    private static void valuesAreUpTo255() {
        StagedTables x = new StagedTables();
        x.table(0);
        Due.is("VALUE -1", x.entry(0, -1, 0, 0, 0), OUTSIDE);
        Due.is("VALUE 256", x.entry(0, 256, 0, 0, 0), OUTSIDE);
        Due.is("none is there", x.told(0, 1), 0);
        Due.is("VALUE 0", x.entry(0, 0, 1, 1, 50), 1);
        Due.is("VALUE 255", x.entry(0, 255, 1, 1, 60), 2);
        x.run();
        Due.is("VALUE 0 is met", x.out(1), 50);
        x.tell(0, 255);
        x.run();
        Due.is("VALUE 255 is met", x.out(1), 60);
        x.tell(0, 254);
        x.run();
        Due.is("254 meets none", x.out(1), 0);
    }

    /** "(.. no two alike)": in one TABLE. */
    private static void noTwoValuesAreAlike() {
        for (int value : new int[] {0, 1, 128, 254, 255}) {
            StagedTables x = new StagedTables();
            x.table(0);
            x.table(0);
            x.entry(0, value, 1, 1, 1);
            for (int kind = 0; kind <= 9; kind++) {
                Due.is("VALUE " + value + " twice, kind " + kind, x.entry(0, value, kind, 2, 2), NO);
            }
            Due.is("one ENTRY still", x.told(0, 1), 1);
            Due.is("with the ACT it had", x.told(0, 12), 1);
            Due.is("VALUE " + value + " in another TABLE", x.entry(1, value, 1, 1, 1), 1);
            Due.is("VALUE next to it", x.entry(0, value ^ 1, 1, 1, 1), 2);
            Due.is("VALUE next to it twice", x.entry(0, value ^ 1, 1, 1, 1), NO);
            Due.is("it goes", x.forget(0, 0), 1);
            Due.is("VALUE " + value + " again", x.entry(0, value, 1, 1, 1), 2);
        }
    }

    /** "a DEFAULT, an ACT (at first NOTHING)". */
    private static void theDefaultIsNothingAtFirst() {
        StagedTables x = new StagedTables();
        x.table(0);
        Due.is("DEFAULT at first", x.told(0, 31), 0);
        Due.is("its TARGET", x.told(0, 32), NONE);
        Due.is("its x", x.told(0, 33), NONE);
        for (int f = 0; f < 6; f++) {
            x.tell(f, 7 * f);
        }
        Due.is("run()", x.run(), 0);
        Due.is("the DEFAULT is taken", x.took(0, 0), 4);
        for (int f = 0; f < 6; f++) {
            Due.is("NOTHING is done to FIELD " + f, x.out(f), 7 * f);
        }
        Due.is("otherwise() tells that it was", x.otherwise(0, 8, 0, 0), 0);
    }

    /** "SIZE of a TABLE: how many ENTRIES it has, and one." */
    private static void sizeIsEntriesAndOne() {
        StagedTables x = new StagedTables();
        Due.is("no TABLE, no SIZE", x.stage(0, 1), 0);
        x.table(0);
        for (int e = 0; e < 4; e++) {
            Due.is("SIZE with " + e, x.stage(0, 1), e + 1);
            x.entry(0, e, 0, 0, 0);
        }
        Due.is("SIZE with four", x.stage(0, 1), 5);
        x.otherwise(0, 1, 1, 1);
        Due.is("another DEFAULT is no more SIZE", x.stage(0, 1), 5);
        x.forget(0, 0);
        Due.is("SIZE with three", x.stage(0, 1), 4);
    }

    /** "KINDS: 0 NOTHING .. 9 GO AGAIN". */
    private static void kindsAreZeroToNine() {
        StagedTables x = new StagedTables();
        x.table(0);
        for (int kind = -1; kind <= 10; kind++) {
            boolean there = kind >= 0 && kind <= 9;
            Due.is("entry, kind " + kind, x.entry(0, 5, kind, 0, 0), there ? 1 : OUTSIDE);
            Due.is("otherwise, kind " + kind, x.otherwise(0, kind, 0, 0), there ? Math.max(kind - 1, 0) : OUTSIDE);
            Due.is("the ENTRY's kind", x.told(0, 11), there ? kind : OUTSIDE);
            Due.is("the DEFAULT's kind", x.told(0, 31), kind < 0 ? 0 : Math.min(kind, 9));
            x.forget(0, 0);
        }
    }

    private static void acts(String what, int kind, int target, int n, boolean taken) {
        StagedTables x = new StagedTables();
        x.table(0);
        String name = what + ", kind " + kind + ", target " + target + ", x " + n;
        Due.is("entry, " + name, x.entry(0, 5, kind, target, n), taken ? 1 : OUTSIDE);
        Due.is("otherwise, " + name, x.otherwise(0, kind, target, n), taken ? 0 : OUTSIDE);
        boolean matter = kind >= 1 && kind <= 7;
        Due.is("how many, " + name, x.told(0, 1), taken ? 1 : 0);
        Due.is("ENTRY's target, " + name, x.told(0, 12), !taken ? OUTSIDE : matter ? target : NONE);
        Due.is("ENTRY's x, " + name, x.told(0, 13), !taken ? OUTSIDE : matter ? n : NONE);
        Due.is("DEFAULT's kind, " + name, x.told(0, 31), taken ? kind : 0);
        Due.is("DEFAULT's target, " + name, x.told(0, 32), taken && matter ? target : NONE);
        Due.is("DEFAULT's x, " + name, x.told(0, 33), taken && matter ? n : NONE);
    }

    /** "a TARGET (a FIELD)", of KINDS 1 to 7. */
    private static void whatTheTargetMayBe() {
        for (int kind = 1; kind <= 7; kind++) {
            for (int target = -1; target <= 6; target++) {
                acts("TARGET", kind, target, 0, target >= 0 && target <= 5);
            }
            acts("TARGET", kind, Integer.MIN_VALUE, 0, false);
            acts("TARGET", kind, Integer.MAX_VALUE, 0, false);
        }
    }

    /** "x (0 to 255 for 1, 3; 0 to 5 for 2, 4; 0 to 3 for 5 to 7)". */
    private static void whatXMayBe() {
        for (int kind = 1; kind <= 7; kind++) {
            for (int n = -1; n <= 257; n++) {
                acts("x", kind, 1, n, n >= 0 && n <= GREATEST_X[kind]);
            }
            acts("x", kind, 1, Integer.MIN_VALUE, false);
            acts("x", kind, 1, Integer.MAX_VALUE, false);
            acts("both", kind, 6, GREATEST_X[kind] + 1, false);
        }
    }

    /** "0 NOTHING (TARGET and x are no matter)", "8 DROP .. 9 GO AGAIN .. (of both TARGET and x are no matter)". */
    private static void targetAndXAreNoMatter() {
        int[] numbers = {Integer.MIN_VALUE, -1, 0, 3, 5, 6, 255, 256, Integer.MAX_VALUE};
        for (int kind : new int[] {0, 8, 9}) {
            for (int target : numbers) {
                for (int n : numbers) {
                    acts("no matter", kind, target, n, true);
                }
            }
        }
    }
}
