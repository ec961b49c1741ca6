/** Promises 1 to 21: the numbers and refusals that each one's own sentence names. */
public final class AnswersEdgesTest {
    private static final int UNKNOWN = -1, OUTSIDE = -2, STATE = -3, FULL = -4, NO = -5, NONE = -6;

    private AnswersEdgesTest() {
    }

    public static void main(String[] args) {
        makersAreAsTold();
        aNewObject();
        objectsAreApart();
        tableTellsItsNumber();
        entryTellsHowMany();
        otherwiseTellsTheKindBefore();
        forgetTellsHowManyAreLeft();
        dropTellsHowManyAreLeft();
        ruleTellsWhichItWas();
        toldByEveryNumber();
        toldOfAnEntryThatIsNotThere();
        needsOfEveryPair();
        stagesOfEmptyAndFull();
        stageOfEveryNumber();
        tellTellsWhichItWas();
        putTellsWhatItWas();
        runTellsHowItEnded();
        outOfEveryNumber();
        tookOfEveryNumber();
        tookByTheNumbersThen();
        Due.end();
    }

    private static void makersAreAsTold() {
        StagedTables x = Makers.full();
        Due.is("full: TABLES", x.count(0), 8);
        for (int t = 0; t < 8; t++) {
            Due.is("full: ENTRIES", x.told(t, 1), 4);
            Due.is("full: REGISTERS", x.told(t, 6), t < 4 ? 1 << t : 0);
        }
        Due.is("full: DONE", x.count(5), 1);
        Due.is("full: ROUNDS", x.out(6), 4);
        Due.is("full: IMAGES", x.count(9), 3);
        Due.is("full: PACKED", x.count(8), 1);
        Due.is("not packed", Makers.notPacked().count(8), 0);
        StagedTables y = Makers.small();
        Due.is("small: TABLES", y.count(0), 2);
        Due.is("small: DONE", y.count(5), 1);
        Due.is("small: IMAGES", y.count(9), 1);
    }

    /** Promise 1: "No TABLE; the PACKET is told as six times 0; no IMAGE is kept." */
    private static void aNewObject() {
        StagedTables x = new StagedTables();
        int[] counts = {0, 10, 2, 8, 3, 0, 0, 0, 1, 0, 0, 0, 0, 0, 0, 0};
        for (int what = 0; what < counts.length; what++) {
            Due.is("1: count(" + what + ")", x.count(what), counts[what]);
        }
        for (int n = 0; n < 8; n++) {
            Due.is("1: no TABLE " + n, x.told(n, 0), UNKNOWN);
            Due.is("1: nothing in STAGE " + n, x.stage(n, 0), 0);
            Due.is("1: no SIZE in STAGE " + n, x.stage(n, 1), 0);
            Due.is("1: TABLE " + n + " took none", x.took(n, 0), NONE);
        }
        for (int r = 0; r < 4; r++) {
            Due.is("1: REGISTER " + r, x.register(r), 0);
        }
        Due.is("1: stages()", x.stages(), 0);
        Due.is("1: fewest()", x.fewest(), 0);
        Due.is("1: no IMAGE 0", x.restore(0), STATE);
        Due.is("1: no IMAGE 1", x.restore(1), STATE);
        Due.is("1: it can run", x.run(), 0);
    }

    private static void objectsAreApart() {
        StagedTables x = Makers.small();
        Seen want = Seen.of(Makers.small());
        StagedTables y = Makers.full();
        y.drop(0);
        y.put(0, 9);
        y.tell(0, 9);
        y.image(0);
        y.image(1);
        y.run();
        Seen.of(x).sameAs("1: another object changes nothing in this one", want);
    }

    /** Promise 2. */
    private static void tableTellsItsNumber() {
        for (int many = 0; many <= 8; many++) {
            for (int key = -1; key <= 6; key++) {
                StagedTables x = Makers.bare(new int[many]);
                boolean there = key >= 0 && key <= 5;
                int due = !there ? UNKNOWN : many == 8 ? FULL : many;
                Due.is("2: table(" + key + ") with " + many, x.table(key), due);
                Due.is("2: how many then", x.count(0), due >= 0 ? many + 1 : many);
                if (due >= 0) {
                    Due.is("2: its KEY", x.told(many, 0), key);
                    Due.is("2: its ENTRIES", x.told(many, 1), 0);
                }
            }
        }
    }

    /** Promise 3. */
    private static void entryTellsHowMany() {
        for (int many = 0; many <= 4; many++) {
            StagedTables x = Makers.bare(many, 0);
            x.otherwise(1, 7, 0, 2);
            Due.is("3: another's REGISTER, with " + many, x.entry(0, 50, 5, 0, 2), NO);
            Due.is("3: no such TABLE, with " + many, x.entry(2, 50, 5, 0, 1), UNKNOWN);
            Due.is("3: no such TABLE, with " + many, x.entry(-1, 50, 5, 0, 1), UNKNOWN);
            if (many > 0) {
                Due.is("3: the first VALUE, with " + many, x.entry(0, 100, 5, 0, 1), NO);
                Due.is("3: the last VALUE, with " + many, x.entry(0, 99 + many, 5, 0, 1), NO);
            }
            Due.is("3: the next VALUE, with " + many, x.entry(0, 100 + many, 5, 0, 1), many < 4 ? many + 1 : FULL);
            Due.is("3: how many then", x.told(0, 1), Math.min(many + 1, 4));
            Due.is("3: REGISTERS then", x.told(0, 6), many < 4 ? 2 : 0);
        }
    }

    /** Promise 4. */
    private static void otherwiseTellsTheKindBefore() {
        for (int before = 0; before <= 9; before++) {
            for (int kind = -1; kind <= 10; kind++) {
                StagedTables x = Makers.bare(4);
                x.otherwise(0, before, 1, 2);
                boolean there = kind >= 0 && kind <= 9;
                Due.is("4: kind " + kind + " behind " + before, x.otherwise(0, kind, 2, 3), there ? before : OUTSIDE);
                Due.is("4: the kind then", x.told(0, 31), there ? kind : before);
                Due.is("4: ENTRIES stay", x.told(0, 1), 4);
            }
        }
        Due.is("4: no such TABLE", new StagedTables().otherwise(0, 0, 0, 0), UNKNOWN);
    }

    /** Promise 5. */
    private static void forgetTellsHowManyAreLeft() {
        for (int many = 0; many <= 4; many++) {
            for (int entry = -1; entry <= 5; entry++) {
                StagedTables x = Makers.bare(many);
                boolean there = entry >= 0 && entry < many;
                Due.is("5: forget " + entry + " of " + many, x.forget(0, entry), there ? many - 1 : OUTSIDE);
                Due.is("5: how many then", x.told(0, 1), there ? many - 1 : many);
                Due.is("5: no such TABLE", x.forget(1, entry), UNKNOWN);
            }
        }
    }

    /** Promise 6. */
    private static void dropTellsHowManyAreLeft() {
        for (int many = 0; many <= 8; many++) {
            for (int table = -1; table <= 8; table++) {
                StagedTables x = Makers.bare(new int[many]);
                boolean there = table >= 0 && table < many;
                Due.is("6: drop(" + table + ") of " + many, x.drop(table), there ? many - 1 : UNKNOWN);
                Due.is("6: how many then", x.count(0), there ? many - 1 : many);
            }
        }
    }

    /** Promise 7. */
    private static void ruleTellsWhichItWas() {
        int[] least = {5, 1, 1, 1};
        int[] greatest = {20, 4, 8, 4};
        StagedTables x = new StagedTables();
        for (int what = 0; what < 4; what++) {
            x.rule(what, least[what]);
            for (int n = least[what]; n <= greatest[what]; n++) {
                Due.is("7: rule(" + what + ", " + n + ")", x.rule(what, n), Math.max(n - 1, least[what]));
                Due.is("7: rule(" + what + ", too small)", x.rule(what, least[what] - 1), OUTSIDE);
                Due.is("7: rule(" + what + ", too large)", x.rule(what, greatest[what] + 1), OUTSIDE);
                Due.is("7: it is", x.count(what + 1), n);
            }
        }
        for (int n = 0; n <= 21; n++) {
            Due.is("7: rule(-1, " + n + ")", x.rule(-1, n), OUTSIDE);
            Due.is("7: rule(4, " + n + ")", x.rule(4, n), OUTSIDE);
        }
    }

    /** Promise 8: 7 to 9, 26 to 30, and what is less than 0 or more than 33, tell nothing. */
    private static void toldByEveryNumber() {
        StagedTables x = new StagedTables();
        x.table(4);
        x.entry(0, 255, 1, 5, 254);
        x.entry(0, 0, 8, 1, 1);
        x.entry(0, 7, 4, 0, 3);
        x.entry(0, 8, 6, 2, 3);
        x.otherwise(0, 5, 4, 1);
        int[] want = {4, 4, 0, 0, 1 + 4 + 16 + 32, 1 + 4 + 8 + 16, 2 + 8, OUTSIDE, OUTSIDE, OUTSIDE,
            255, 1, 5, 254, 0, 8, NONE, NONE, 7, 4, 0, 3, 8, 6, 2, 3,
            OUTSIDE, OUTSIDE, OUTSIDE, OUTSIDE, OUTSIDE, 5, 4, 1, OUTSIDE, OUTSIDE};
        for (int what = 0; what < want.length; what++) {
            Due.is("8: told(0, " + what + ")", x.told(0, what), want[what]);
            Due.is("8: told(1, " + what + ")", x.told(1, what), UNKNOWN);
            Due.is("8: told(-1, " + what + ")", x.told(-1, what), UNKNOWN);
        }
        for (int what = 36; what < 80; what++) {
            Due.is("8: told(0, " + what + ")", x.told(0, what), OUTSIDE);
            Due.is("8: told(0, " + (35 - what) + ")", x.told(0, 35 - what), OUTSIDE);
        }
    }

    /** Promise 8: "OUTSIDE (there is no such ENTRY, too)". */
    private static void toldOfAnEntryThatIsNotThere() {
        for (int many = 0; many <= 4; many++) {
            StagedTables x = Makers.bare(many);
            for (int e = 0; e < 4; e++) {
                Due.is("8: VALUE " + e + " of " + many, x.told(0, 10 + 4 * e), e < many ? 100 + e : OUTSIDE);
                Due.is("8: KIND " + e + " of " + many, x.told(0, 11 + 4 * e), e < many ? 8 : OUTSIDE);
                Due.is("8: TARGET " + e + " of " + many, x.told(0, 12 + 4 * e), e < many ? NONE : OUTSIDE);
                Due.is("8: x " + e + " of " + many, x.told(0, 13 + 4 * e), e < many ? NONE : OUTSIDE);
            }
            Due.is("8: the DEFAULT's KIND with " + many, x.told(0, 31), 0);
            Due.is("8: the DEFAULT's TARGET with " + many, x.told(0, 32), NONE);
            Due.is("8: the DEFAULT's x with " + many, x.told(0, 33), NONE);
        }
    }

    /** Promise 9. */
    private static void needsOfEveryPair() {
        for (int many = 0; many <= 8; many++) {
            StagedTables x = Makers.bare(new int[many]);
            for (int one = -1; one <= 8; one++) {
                for (int other = -1; other <= 8; other++) {
                    boolean there = one >= 0 && one < many && other >= 0 && other < many;
                    int due = !there ? UNKNOWN : one == other ? OUTSIDE : 0;
                    Due.is("9: needs(" + one + ", " + other + ") of " + many, x.needs(one, other), due);
                }
            }
        }
    }

    /** Promise 10. */
    private static void stagesOfEmptyAndFull() {
        Due.is("10: no TABLE", new StagedTables().stages(), 0);
        StagedTables x = Makers.bare(0, 0, 0, 0, 0, 0, 0, 0);
        int[] want = {8, 4, 3, 2};
        for (int wide = 1; wide <= 4; wide++) {
            x.rule(1, wide);
            for (int stages = 1; stages <= 8; stages++) {
                x.rule(2, stages);
                int due = stages < want[wide - 1] ? STATE : want[wide - 1];
                Due.is("10: WIDE " + wide + ", STAGES " + stages, x.stages(), due);
            }
        }
    }

    /** Promise 11: "0 to 7", also those that are not less than STAGES. */
    private static void stageOfEveryNumber() {
        for (int stages = 1; stages <= 8; stages++) {
            StagedTables x = Makers.bare(1, 2);
            x.rule(2, stages);
            for (int i = -2; i <= 9; i++) {
                boolean there = i >= 0 && i <= 7;
                Due.is("11: TABLES of " + i, x.stage(i, 0), !there ? OUTSIDE : i == 0 ? 3 : 0);
                Due.is("11: SIZES of " + i, x.stage(i, 1), !there ? OUTSIDE : i == 0 ? 5 : 0);
                Due.is("11: what is -1", x.stage(i, -1), OUTSIDE);
                Due.is("11: what is 2", x.stage(i, 2), OUTSIDE);
            }
        }
    }

    /** Promise 13. */
    private static void tellTellsWhichItWas() {
        for (int f = 0; f < 6; f++) {
            StagedTables x = new StagedTables();
            int was = 0;
            for (int n = -2; n <= 257; n++) {
                boolean taken = n >= 0 && n <= 255;
                Due.is("13: tell(" + f + ", " + n + ")", x.tell(f, n), taken ? was : OUTSIDE);
                was = taken ? n : was;
            }
            Due.is("13: it is", x.count(10 + f), 255);
        }
    }

    /** Promises 14 and 15. */
    private static void putTellsWhatItWas() {
        int[] numbers = {0, 1, 255, 256, 32767, 32768, 65534, 65535};
        for (int r = 0; r < 4; r++) {
            StagedTables x = new StagedTables();
            int was = 0;
            for (int n : numbers) {
                Due.is("14: put(" + r + ", " + n + ")", x.put(r, n), was);
                Due.is("15: register(" + r + ")", x.register(r), n);
                Due.is("14: put(" + r + ", 65536)", x.put(r, 65536), OUTSIDE);
                Due.is("14: put(" + r + ", -1)", x.put(r, -1), OUTSIDE);
                Due.is("15: register(" + r + ") still", x.register(r), n);
                was = n;
            }
        }
        for (int r : new int[] {-2, -1, 4, 5}) {
            Due.is("14: put(" + r + ", 0)", new StagedTables().put(r, 0), UNKNOWN);
            Due.is("15: register(" + r + ")", new StagedTables().register(r), UNKNOWN);
        }
    }

    /** Promise 16. */
    private static void runTellsHowItEnded() {
        int[] ends = {0, 0, 0, 0, 0, 0, 0, 0, 1, 2};
        for (int kind = 0; kind <= 9; kind++) {
            StagedTables x = Makers.bare(0);
            x.otherwise(0, kind, 0, 0);
            Due.is("16: kind " + kind, x.run(), ends[kind]);
            Due.is("21: DROPPED, kind " + kind, x.count(6), kind == 8 ? 1 : 0);
            x.table(0);
            x.rule(1, 1);
            x.rule(2, 1);
            Due.is("16: not PACKED", x.run(), STATE);
            Due.is("21: DONE", x.count(5), 1);
        }
    }

    /** Promise 17: "NONE: none was yet. OUTSIDE." */
    private static void outOfEveryNumber() {
        StagedTables x = new StagedTables();
        for (int what = -2; what <= 9; what++) {
            Due.is("17: none yet, out(" + what + ")", x.out(what), what >= 0 && what <= 6 ? NONE : OUTSIDE);
        }
        Due.is("17: not PACKED is none, too", refusedRun(x), STATE);
        for (int what = 0; what <= 6; what++) {
            Due.is("17: none yet still, out(" + what + ")", x.out(what), NONE);
        }
        x.rule(2, 8);
        for (int f = 0; f < 6; f++) {
            x.tell(f, 30 + f);
        }
        x.run();
        for (int what = -2; what <= 9; what++) {
            Due.is("17: out(" + what + ")", x.out(what), what < 0 || what > 6 ? OUTSIDE : what == 6 ? 1 : 30 + what);
        }
    }

    private static int refusedRun(StagedTables x) {
        x.table(0);
        x.table(0);
        x.rule(1, 1);
        x.rule(2, 1);
        return x.run();
    }

    /** Promise 18: "OUTSIDE: the TABLE is not 0 to 7, the ROUND not 0 to 3." */
    private static void tookOfEveryNumber() {
        StagedTables none = new StagedTables();
        StagedTables x = Makers.bare(1, 1, 1);
        x.otherwise(1, 9, 0, 0);
        x.rule(3, 2);
        x.run();
        StagedTables most = Makers.full();
        for (int table = -1; table <= 8; table++) {
            for (int round = -1; round <= 4; round++) {
                String what = "18: took(" + table + ", " + round + ")";
                boolean there = table >= 0 && table <= 7 && round >= 0 && round <= 3;
                Due.is(what + ", no PACKET yet", none.took(table, round), there ? NONE : OUTSIDE);
                int due = there && table < 3 && round < 2 ? 4 : NONE;
                Due.is(what + ", three TABLES, two ROUNDS", x.took(table, round), there ? due : OUTSIDE);
                Due.isTrue(what + ", all there", there == most.took(table, round) >= 0);
            }
        }
        Due.is("18: not PACKED is no PACKET", refusedRun(none), STATE);
        Due.is("18: still none", none.took(0, 0), NONE);
    }

    /** Promise 18: "(TABLES by the numbers that they had then)", and ENTRIES likewise. */
    private static void tookByTheNumbersThen() {
        StagedTables x = Makers.bare(4, 4, 4);
        x.tell(0, 101);
        x.tell(1, 103);
        x.run();
        int[] want = {1, 3, 4};
        tookThen("at once", x, want);
        x.forget(0, 0);
        tookThen("an ENTRY less", x, want);
        x.drop(1);
        tookThen("a TABLE less", x, want);
        x.table(0);
        x.table(0);
        tookThen("TABLES more", x, want);
        x.image(0);
        x.drop(0);
        x.restore(0);
        tookThen("an IMAGE", x, want);
        x.rule(2, 1);
        x.run();
        tookThen("a run that was refused", x, want);
    }

    private static void tookThen(String what, StagedTables x, int[] want) {
        for (int t = 0; t < 8; t++) {
            Due.is("18: " + what + ", TABLE " + t, x.took(t, 0), t < want.length ? want[t] : NONE);
            Due.is("18: " + what + ", no second ROUND", x.took(t, 1), NONE);
        }
    }
}
