/** Part 3 of the document: rounds, marks, and what a packet is taken as. */
public final class RoundsEdgesTest {
    private static final int STATE = -3, NONE = -6;

    private RoundsEdgesTest() {
    }

    public static void main(String[] args) {
        itIsTakenAsItIsTold();
        itIsTakenWithoutMarks();
        fieldsAreAsWhenTheStageBegan();
        aLaterStageSeesWhatAnEarlierDid();
        theEntryOrTheDefault();
        droppedIsTheEnd();
        droppedAndAgainTogether();
        timesAreOneToFour();
        theLastRoundIsStillMarkedAgain();
        theMarkGoes();
        droppedInTheLastRound();
        registersGoOnFromRoundToRound();
        withoutTablesThereIsOneRound();
        tableByTableComesToTheSame();
        Due.end();
    }

    /** "it is taken as IT IS told (six FIELDS ..)": what is told stays. */
    private static void itIsTakenAsItIsTold() {
        StagedTables x = new StagedTables();
        x.table(0);
        x.otherwise(0, 3, 0, 255);
        for (int f = 0; f < 6; f++) {
            x.tell(f, 51 * f);
        }
        for (int i = 0; i < 3; i++) {
            Due.is("run()", x.run(), 0);
            Due.is("FIELD 0 in the end", x.out(0), 255);
            for (int f = 0; f < 6; f++) {
                Due.is("told still, FIELD " + f, x.count(10 + f), 51 * f);
            }
        }
        x.tell(0, 1);
        Due.is("telling changes none that was DONE", x.out(0), 255);
        x.run();
        Due.is("but the next", x.out(0), 0);
    }

    /** "(.. without MARKS)". */
    private static void itIsTakenWithoutMarks() {
        StagedTables x = new StagedTables();
        x.table(0);
        x.entry(0, 1, 8, 0, 0);
        x.entry(0, 2, 9, 0, 0);
        x.tell(0, 1);
        Due.is("DROPPED", x.run(), 1);
        x.tell(0, 0);
        Due.is("the next is not DROPPED", x.run(), 0);
        x.tell(0, 2);
        Due.is("AGAIN to the end", x.run(), 2);
        x.tell(0, 0);
        Due.is("the next is not AGAIN", x.run(), 0);
        Due.is("and has one ROUND", x.out(6), 1);
        x.tell(0, 1);
        Due.is("DROPPED, not AGAIN", x.run(), 1);
        x.tell(0, 2);
        Due.is("AGAIN, not DROPPED", x.run(), 2);
    }

    /** "the KEYS of all its TABLES, and all FIELDS that ACTS READ, are as they were when the STAGE began". */
    private static void fieldsAreAsWhenTheStageBegan() {
        StagedTables x = new StagedTables();
        x.rule(1, 3);
        x.table(0);
        x.entry(0, 7, 2, 3, 1);
        x.table(4);
        x.otherwise(1, 1, 0, 9);
        x.table(5);
        x.otherwise(2, 1, 1, 88);
        x.tell(0, 7);
        x.tell(1, 44);
        Due.is("all in one STAGE", x.stages(), 1);
        Due.is("run()", x.run(), 0);
        Due.is("the KEY is as it was", x.took(0, 0), 0);
        Due.is("what is read is as it was", x.out(3), 44);
        Due.is("the KEY is written", x.out(0), 9);
        Due.is("what was read is written", x.out(1), 88);
    }

    private static void aLaterStageSeesWhatAnEarlierDid() {
        StagedTables x = new StagedTables();
        x.table(4);
        x.otherwise(0, 1, 0, 9);
        x.table(0);
        x.entry(1, 7, 1, 3, 70);
        x.entry(1, 9, 1, 3, 90);
        x.tell(0, 7);
        Due.is("two STAGES", x.stages(), 2);
        x.run();
        Due.is("the KEY that was written", x.took(1, 0), 1);
        Due.is("its ACT", x.out(3), 90);
    }

    /** "the ACT of the ENTRY whose VALUE its KEY is, or its DEFAULT, if there is none". */
    private static void theEntryOrTheDefault() {
        StagedTables x = new StagedTables();
        x.table(0);
        x.entry(0, 254, 1, 1, 11);
        x.entry(0, 0, 1, 1, 22);
        x.entry(0, 255, 1, 1, 33);
        x.otherwise(0, 1, 1, 44);
        int[][] rows = {{0, 22, 1}, {1, 44, 4}, {253, 44, 4}, {254, 11, 0}, {255, 33, 2}};
        for (int[] row : rows) {
            x.tell(0, row[0]);
            x.run();
            Due.is("KEY is " + row[0], x.out(1), row[1]);
            Due.is("KEY is " + row[0] + ", took", x.took(0, 0), row[2]);
        }
    }

    /** "If it is DROPPED then, that is the end": at the ROUND's end, so the other TABLES act, too. */
    private static void droppedIsTheEnd() {
        for (int at = 0; at < 3; at++) {
            StagedTables x = new StagedTables();
            for (int t = 0; t < 3; t++) {
                x.table(0);
                x.otherwise(t, t == at ? 8 : 5, 1 + t, t);
            }
            Due.is("DROPPED by " + at, x.run(), 1);
            Due.is("one ROUND", x.out(6), 1);
            for (int t = 0; t < 3; t++) {
                Due.is("DROPPED by " + at + ", FIELD of " + t, x.out(1 + t), t == at ? 0 : 1);
                Due.is("DROPPED by " + at + ", REGISTER of " + t, x.register(t), t == at ? 0 : 1);
                Due.is("DROPPED by " + at + ", " + t + " took", x.took(t, 0), 4);
            }
            Due.is("counted as DONE", x.count(5), 1);
            Due.is("counted as DROPPED", x.count(6), 1);
            Due.is("its ROUND is counted", x.count(7), 1);
        }
    }

    /** "If it is DROPPED then, that is the end; else, if it is marked AGAIN": DROPPED comes first. */
    private static void droppedAndAgainTogether() {
        for (int first = 8; first <= 9; first++) {
            for (int times = 1; times <= 4; times++) {
                StagedTables x = new StagedTables();
                x.rule(3, times);
                x.table(0);
                x.otherwise(0, first, 0, 0);
                x.table(0);
                x.otherwise(1, 17 - first, 0, 0);
                Due.is("both, kind " + first + " first, TIMES " + times, x.run(), 1);
                Due.is("one ROUND", x.out(6), 1);
                Due.is("no second ROUND", x.took(0, 1), NONE);
                Due.is("DROPPED", x.count(6), 1);
                Due.is("ROUNDS", x.count(7), 1);
            }
        }
    }

    /** A program whose packets always go again, and that counts in field 1. */
    private static StagedTables always() {
        StagedTables x = new StagedTables();
        x.table(0);
        x.otherwise(0, 9, 0, 0);
        x.table(0);
        x.otherwise(1, 3, 1, 1);
        return x;
    }

    /** "there were fewer ROUNDS than TIMES (1 to 4; 3 at first)". */
    private static void timesAreOneToFour() {
        StagedTables x = always();
        Due.is("TIMES at first", x.count(4), 3);
        Due.is("run()", x.run(), 2);
        Due.is("ROUNDS at first", x.out(6), 3);
        Due.is("TIMES 0", x.rule(3, 0), -2);
        Due.is("TIMES 5", x.rule(3, 5), -2);
        Due.is("TIMES still", x.count(4), 3);
        int rounds = 3;
        for (int times = 1; times <= 4; times++) {
            Due.is("TIMES " + times, x.rule(3, times), times == 1 ? 3 : times - 1);
            Due.is("run(), TIMES " + times, x.run(), 2);
            Due.is("ROUNDS, TIMES " + times, x.out(6), times);
            Due.is("FIELD, TIMES " + times, x.out(1), times);
            for (int round = 0; round < 4; round++) {
                Due.is("took, ROUND " + round + ", TIMES " + times, x.took(1, round), round < times ? 4 : NONE);
            }
            rounds += times;
            Due.is("all ROUNDS", x.count(7), rounds);
        }
        Due.is("none is DROPPED", x.count(6), 0);
    }

    /** Goes again until field 0, which each round makes one more, is so much. */
    private static StagedTables until(int n) {
        StagedTables x = new StagedTables();
        x.table(0);
        x.otherwise(0, 9, 0, 0);
        x.entry(0, n, 0, 0, 0);
        x.table(1);
        x.otherwise(1, 3, 0, 1);
        return x;
    }

    /** "2 it came out, marked AGAIN still": if the last ROUND that TIMES lets be has marked it. */
    private static void theLastRoundIsStillMarkedAgain() {
        for (int times = 1; times <= 4; times++) {
            for (int n = 0; n <= 4; n++) {
                StagedTables x = until(n);
                x.rule(3, times);
                String what = "AGAIN in " + n + " ROUNDS, TIMES " + times;
                Due.is(what, x.run(), n < times ? 0 : 2);
                Due.is(what + ": ROUNDS", x.out(6), Math.min(n + 1, times));
                Due.is(what + ": FIELD", x.out(0), Math.min(n + 1, times));
                Due.is(what + ": took in the last", x.took(0, Math.min(n + 1, times) - 1), n < times ? 0 : 4);
            }
        }
    }

    /** "the mark goes, and there is another ROUND". */
    private static void theMarkGoes() {
        StagedTables x = until(1);
        Due.is("AGAIN once, and not marked then", x.run(), 0);
        Due.is("two ROUNDS", x.out(6), 2);
        Due.is("the first by the DEFAULT", x.took(0, 0), 4);
        Due.is("the second by the ENTRY", x.took(0, 1), 0);
        Due.is("no third", x.took(0, 2), NONE);
        Due.is("FIELDS go on from ROUND to ROUND", x.out(0), 2);
    }

    private static void droppedInTheLastRound() {
        for (int times = 1; times <= 4; times++) {
            StagedTables x = until(times - 1);
            x.forget(0, 0);
            x.entry(0, times - 1, 8, 0, 0);
            x.rule(3, times);
            Due.is("DROPPED in ROUND " + times, x.run(), 1);
            Due.is("ROUNDS", x.out(6), times);
            Due.is("all of them count", x.count(7), times);
        }
    }

    private static void registersGoOnFromRoundToRound() {
        StagedTables x = new StagedTables();
        x.table(0);
        x.otherwise(0, 9, 0, 0);
        x.table(0);
        x.otherwise(1, 5, 1, 3);
        x.put(3, 65534);
        x.rule(3, 4);
        Due.is("run()", x.run(), 2);
        Due.is("four more, above 65535", x.register(3), 2);
        Due.is("its lowest 8 bits", x.out(1), 2);
        x.run();
        Due.is("and from PACKET to PACKET", x.register(3), 6);
    }

    /** "A PACKET without TABLES has one ROUND." */
    private static void withoutTablesThereIsOneRound() {
        for (int times = 1; times <= 4; times++) {
            StagedTables x = new StagedTables();
            x.rule(3, times);
            x.rule(2, 1);
            for (int f = 0; f < 6; f++) {
                x.tell(f, 255 - f);
            }
            Due.is("run() without TABLES", x.run(), 0);
            Due.is("one ROUND", x.out(6), 1);
            for (int f = 0; f < 6; f++) {
                Due.is("FIELD " + f + " as told", x.out(f), 255 - f);
            }
            Due.is("DONE", x.count(5), 1);
            Due.is("ROUNDS", x.count(7), 1);
            for (int t = 0; t < 8; t++) {
                Due.is("no TABLE took", x.took(t, 0), NONE);
            }
        }
        StagedTables x = always();
        x.run();
        x.drop(0);
        x.drop(0);
        Due.is("the TABLES are gone", x.run(), 0);
        Due.is("one ROUND again", x.out(6), 1);
        Due.is("no TABLE took any more", x.took(0, 0), NONE);
    }

    /** "(This comes to the same as TABLES one by one ..)": so how it is PACKED is no matter, if it is. */
    private static void tableByTableComesToTheSame() {
        for (int wide = 1; wide <= 4; wide++) {
            for (int room = 5; room <= 20; room += 5) {
                StagedTables x = Makers.full();
                x.restore(0);
                x.rule(1, wide);
                x.rule(0, room);
                StagedTables y = Makers.full();
                y.restore(0);
                Due.is("both run", x.run(), y.run());
                for (int what = 0; what <= 6; what++) {
                    Due.is("WIDE " + wide + ", ROOM " + room + ": out(" + what + ")", x.out(what), y.out(what));
                }
                for (int r = 0; r < 4; r++) {
                    Due.is("WIDE " + wide + ", ROOM " + room + ": REGISTER " + r, x.register(r), y.register(r));
                }
            }
        }
        StagedTables x = Makers.notPacked();
        Due.is("if it is not PACKED, none is DONE", x.run(), STATE);
    }
}
