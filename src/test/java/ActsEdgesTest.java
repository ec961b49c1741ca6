/** Part 1 of the document: what each kind of act does, writes and reads, and whose a register is. */
public final class ActsEdgesTest {
    private static final int NO = -5;

    private ActsEdgesTest() {
    }

    public static void main(String[] args) {
        nothing();
        set();
        copy();
        addAbove255();
        mix();
        countAbove65535();
        topWhereBothAreEqual();
        swapTheLowestEightBits();
        dropAndGoAgain();
        whatAnActWritesAndReads();
        whatATableWritesAndReads();
        aRegisterIsOneTables();
        aRegisterIsFreeAgain();
        anXThatIsNoRegister();
        aRegisterKeepsItsNumber();
        Due.end();
    }

    /** Does one act, once as an entry's and once as a default's; field f is told as 10 f + 5, but for the target. */
    private static void done(int kind, int target, int n, int is, int becomes) {
        for (int by = 0; by < 2; by++) {
            StagedTables x = new StagedTables();
            x.table(0);
            for (int f = 0; f < 6; f++) {
                x.tell(f, f == target ? is : 10 * f + 5);
            }
            if (by == 0) {
                x.otherwise(0, kind, target, n);
            } else {
                x.entry(0, x.count(10), kind, target, n);
            }
            String what = "kind " + kind + ", target " + target + " is " + is + ", x " + n;
            Due.is(what + ": run()", x.run(), 0);
            Due.is(what + ": took", x.took(0, 0), by == 0 ? 4 : 0);
            for (int f = 0; f < 6; f++) {
                Due.is(what + ": FIELD " + f, x.out(f), f == target ? becomes : 10 * f + 5);
            }
        }
    }

    private static void nothing() {
        for (int f = 0; f < 6; f++) {
            done(0, f, 3, 0, 0);
            done(0, f, 3, 255, 255);
        }
    }

    /** "1 SET: the TARGET becomes x (0 to 255)". */
    private static void set() {
        for (int f = 0; f < 6; f++) {
            for (int n : new int[] {0, 1, 254, 255}) {
                done(1, f, n, 77, n);
            }
        }
    }

    /** "2 COPY: the TARGET becomes what FIELD x is": itself, too. */
    private static void copy() {
        for (int f = 0; f < 6; f++) {
            for (int n = 0; n < 6; n++) {
                done(2, f, n, 255, n == f ? 255 : 10 * n + 5);
            }
        }
    }

    /** "3 ADD: .. less 256 if that is above 255". */
    private static void addAbove255() {
        done(3, 1, 255, 0, 255);
        done(3, 1, 255, 1, 0);
        done(3, 1, 255, 255, 254);
        done(3, 1, 0, 255, 255);
        done(3, 1, 1, 254, 255);
        done(3, 1, 1, 255, 0);
        for (int n = 0; n <= 255; n++) {
            for (int is : new int[] {0, 1, 127, 128, 200, 254, 255}) {
                done(3, n % 6, n, is, is + n > 255 ? is + n - 256 : is + n);
            }
        }
    }

    /** "4 MIX: .. the bits that are in just one of it and FIELD x": with itself none. */
    private static void mix() {
        for (int f = 0; f < 6; f++) {
            for (int n = 0; n < 6; n++) {
                for (int is : new int[] {0, 85, 170, 255}) {
                    int other = 10 * n + 5;
                    done(4, f, n, is, n == f ? 0 : (is | other) - (is & other));
                }
            }
        }
    }

    /** One act with a register, the target being told as so much; then what both are. */
    private static void withRegister(int kind, int[] before, int[] after) {
        for (int r = 0; r < 4; r++) {
            StagedTables x = new StagedTables();
            int target = (r + before[0]) % 6;
            x.table(5);
            x.otherwise(0, kind, target, r);
            x.tell(target, before[0]);
            x.put(r, before[1]);
            String what = "kind " + kind + ", target is " + before[0] + ", REGISTER " + r + " is " + before[1];
            Due.is(what + ": run()", x.run(), 0);
            for (int f = 0; f < 6; f++) {
                Due.is(what + ": FIELD " + f, x.out(f), f == target ? after[0] : 0);
            }
            for (int s = 0; s < 4; s++) {
                Due.is(what + ": REGISTER " + s, x.register(s), s == r ? after[1] : 0);
            }
        }
    }

    /** "5 COUNT: REGISTER x is one more (65536 is 0), and the TARGET becomes its lowest 8 bits then". */
    private static void countAbove65535() {
        for (int is : new int[] {0, 1, 255}) {
            withRegister(5, new int[] {is, 0}, new int[] {1, 1});
            withRegister(5, new int[] {is, 254}, new int[] {255, 255});
            withRegister(5, new int[] {is, 255}, new int[] {0, 256});
            withRegister(5, new int[] {is, 256}, new int[] {1, 257});
            withRegister(5, new int[] {is, 511}, new int[] {0, 512});
            withRegister(5, new int[] {is, 32767}, new int[] {0, 32768});
            withRegister(5, new int[] {is, 65534}, new int[] {255, 65535});
            withRegister(5, new int[] {is, 65535}, new int[] {0, 0});
        }
        StagedTables x = new StagedTables();
        x.table(0);
        x.otherwise(0, 5, 1, 0);
        x.put(0, 65533);
        int[] want = {65534, 65535, 0, 1};
        for (int n : want) {
            x.run();
            Due.is("COUNT from PACKET to PACKET", x.register(0), n);
            Due.is("COUNT's TARGET", x.out(1), n & 255);
        }
    }

    /** "6 TOP: if the TARGET is greater than REGISTER x .. else the TARGET becomes 0": equal is not greater. */
    private static void topWhereBothAreEqual() {
        for (int n : new int[] {0, 1, 128, 254, 255}) {
            withRegister(6, new int[] {n, n}, new int[] {0, n});
            withRegister(6, new int[] {n, n + 1}, new int[] {0, n + 1});
            withRegister(6, new int[] {n, 65535}, new int[] {0, 65535});
            if (n > 0) {
                withRegister(6, new int[] {n, n - 1}, new int[] {1, n});
                withRegister(6, new int[] {n, 0}, new int[] {1, n});
            }
        }
        withRegister(6, new int[] {255, 256}, new int[] {0, 256});
        withRegister(6, new int[] {1, 256}, new int[] {0, 256});
    }

    /** "7 SWAP: .. the TARGET the lowest 8 bits of what the REGISTER was". */
    private static void swapTheLowestEightBits() {
        for (int n : new int[] {0, 1, 254, 255}) {
            withRegister(7, new int[] {n, 0}, new int[] {0, n});
            withRegister(7, new int[] {n, 255}, new int[] {255, n});
            withRegister(7, new int[] {n, 256}, new int[] {0, n});
            withRegister(7, new int[] {n, 257}, new int[] {1, n});
            withRegister(7, new int[] {n, 65280}, new int[] {0, n});
            withRegister(7, new int[] {n, 65535}, new int[] {255, n});
        }
    }

    /** "8 DROP: the PACKET is DROPPED; 9 GO AGAIN: it is marked AGAIN": no more than that. */
    private static void dropAndGoAgain() {
        for (int kind = 8; kind <= 9; kind++) {
            StagedTables x = new StagedTables();
            x.table(0);
            x.otherwise(0, kind, 1, 2);
            for (int f = 0; f < 6; f++) {
                x.tell(f, 250 + f);
            }
            x.put(2, 300);
            Due.is("kind " + kind + ": run()", x.run(), kind - 7);
            for (int f = 0; f < 6; f++) {
                Due.is("kind " + kind + ": FIELD " + f, x.out(f), 250 + f);
            }
            Due.is("kind " + kind + ": REGISTER 2", x.register(2), 300);
        }
    }

    /** "An ACT WRITES its TARGET (KINDS 1 to 7); it READS FIELD x (2), the TARGET (3, 6, 7), both (4)." */
    private static void whatAnActWritesAndReads() {
        for (int kind = 0; kind <= 9; kind++) {
            for (int target = 0; target < 6; target++) {
                for (int n = 0; n < 4; n++) {
                    StagedTables x = new StagedTables();
                    x.table(5);
                    x.table(5);
                    x.otherwise(0, kind, target, n);
                    x.entry(1, 9, kind < 5 || kind > 7 ? kind : 0, target, n);
                    String what = "kind " + kind + ", target " + target + ", x " + n;
                    int writes = kind >= 1 && kind <= 7 ? 1 << target : 0;
                    int reads = 1 << 5;
                    reads |= kind == 2 || kind == 4 ? 1 << n : 0;
                    reads |= kind == 3 || kind == 4 || kind == 6 || kind == 7 ? 1 << target : 0;
                    Due.is(what + ": WRITES", x.told(0, 4), writes);
                    Due.is(what + ": READS", x.told(0, 5), reads);
                    Due.is(what + ": REGISTERS", x.told(0, 6), kind >= 5 && kind <= 7 ? 1 << n : 0);
                    boolean same = kind < 5 || kind > 7;
                    Due.is(what + ": an ENTRY WRITES", x.told(1, 4), same ? writes : 0);
                    Due.is(what + ": an ENTRY READS", x.told(1, 5), same ? reads : 1 << 5);
                }
            }
        }
    }

    /** "A TABLE WRITES and READS what any of its ACTS does, and READS its KEY, too." */
    private static void whatATableWritesAndReads() {
        StagedTables x = new StagedTables();
        x.table(2);
        Due.is("no ACT: WRITES", x.told(0, 4), 0);
        Due.is("no ACT: READS", x.told(0, 5), 4);
        x.entry(0, 0, 1, 0, 9);
        Due.is("one: WRITES", x.told(0, 4), 1);
        x.entry(0, 1, 2, 1, 5);
        Due.is("two: WRITES", x.told(0, 4), 3);
        Due.is("two: READS", x.told(0, 5), 4 + 32);
        x.entry(0, 2, 6, 3, 1);
        x.entry(0, 3, 4, 4, 0);
        x.otherwise(0, 7, 5, 3);
        Due.is("all: WRITES", x.told(0, 4), 1 + 2 + 8 + 16 + 32);
        Due.is("all: READS", x.told(0, 5), 4 + 32 + 8 + 16 + 1);
        Due.is("all: REGISTERS", x.told(0, 6), 2 + 8);
        x.otherwise(0, 8, 5, 3);
        Due.is("the DEFAULT gone: WRITES", x.told(0, 4), 1 + 2 + 8 + 16);
        Due.is("the DEFAULT gone: REGISTERS", x.told(0, 6), 2);
        x.forget(0, 3);
        Due.is("the last gone: READS", x.told(0, 5), 4 + 32 + 8);
        x.forget(0, 0);
        Due.is("the first gone: WRITES", x.told(0, 4), 2 + 8);
        x.forget(0, 0);
        x.forget(0, 0);
        Due.is("all gone: WRITES", x.told(0, 4), 0);
        Due.is("all gone: READS", x.told(0, 5), 4);
        Due.is("all gone: REGISTERS", x.told(0, 6), 0);
    }

    /** "A REGISTER is that of the TABLE that has any ACT with it; no other one may have one." */
    private static void aRegisterIsOneTables() {
        for (int has = 5; has <= 7; has++) {
            for (int wants = 5; wants <= 7; wants++) {
                for (int by = 0; by < 2; by++) {
                    StagedTables x = new StagedTables();
                    x.table(0);
                    x.table(1);
                    x.table(2);
                    Due.is("it is nobody's", by == 0 ? x.entry(1, 9, has, 3, 2) : x.otherwise(1, has, 3, 2), 1 - by);
                    String what = "kind " + has + " has it, kind " + wants + " wants it";
                    for (int t = 0; t <= 2; t += 2) {
                        Due.is(what + ": entry of " + t, x.entry(t, 1, wants, 0, 2), NO);
                        Due.is(what + ": otherwise of " + t, x.otherwise(t, wants, 0, 2), NO);
                        Due.is(what + ": no REGISTER of " + t, x.told(t, 6), 0);
                        Due.is(what + ": no ENTRY of " + t, x.told(t, 1), 0);
                        Due.is(what + ": DEFAULT of " + t, x.told(t, 31), 0);
                    }
                    Due.is(what + ": another REGISTER", x.entry(0, 1, wants, 0, 1), 1);
                    Due.is(what + ": and another", x.otherwise(2, wants, 0, 3), 0);
                    Due.is(what + ": its own, an ENTRY", x.entry(1, 1, wants, 0, 2), 2 - by);
                    Due.is(what + ": its own, the DEFAULT", x.otherwise(1, wants, 0, 2), by == 0 ? 0 : has);
                }
            }
        }
    }

    private static void aRegisterIsFreeAgain() {
        StagedTables x = new StagedTables();
        x.table(0);
        x.table(1);
        x.entry(0, 1, 5, 1, 0);
        x.entry(0, 2, 6, 1, 0);
        x.forget(0, 0);
        Due.is("an ENTRY has it still", x.otherwise(1, 5, 1, 0), NO);
        x.otherwise(0, 7, 1, 0);
        x.forget(0, 0);
        Due.is("the DEFAULT has it still", x.otherwise(1, 5, 1, 0), NO);
        x.otherwise(0, 7, 1, 1);
        Due.is("it is free", x.otherwise(1, 5, 1, 0), 0);
        Due.is("now it is another's", x.otherwise(0, 7, 1, 0), NO);
        x.otherwise(0, 0, 0, 0);
        Due.is("REGISTER 1 is free", x.entry(1, 5, 5, 1, 1), 1);
        Due.is("the TABLE goes", x.drop(1), 1);
        Due.is("REGISTER 0 is free", x.entry(0, 5, 5, 1, 0), 1);
        Due.is("REGISTER 1 is free, too", x.entry(0, 6, 5, 1, 1), 2);
        x.table(3);
        x.table(4);
        Due.is("a TABLE ahead goes", x.otherwise(2, 5, 5, 3) + x.drop(1), 2);
        Due.is("its REGISTER is of the one that is one less", x.told(1, 6), 8);
        Due.is("and not another's", x.otherwise(0, 5, 5, 3), NO);
        Due.is("but its own", x.entry(1, 0, 5, 5, 3), 1);
    }

    /** Of KINDS other than 5 to 7 the number x is no REGISTER. */
    private static void anXThatIsNoRegister() {
        for (int kind : new int[] {0, 1, 2, 3, 4, 8, 9}) {
            StagedTables x = new StagedTables();
            x.table(0);
            x.table(1);
            x.otherwise(0, 5, 0, 3);
            Due.is("entry, kind " + kind + ", x 3", x.entry(1, 0, kind, 0, 3), 1);
            Due.is("otherwise, kind " + kind + ", x 3", x.otherwise(1, kind, 0, 3), 0);
            Due.is("no REGISTER, kind " + kind, x.told(1, 6), 0);
            x.entry(1, 1, kind, 0, 2);
            Due.is("REGISTER 2 is free, kind " + kind, x.entry(0, 0, 5, 0, 2), 1);
        }
    }

    private static void aRegisterKeepsItsNumber() {
        StagedTables x = new StagedTables();
        x.table(0);
        x.otherwise(0, 5, 1, 2);
        x.put(2, 40);
        x.run();
        x.drop(0);
        Due.is("the TABLE is gone, its REGISTER is as it was", x.register(2), 41);
        x.table(0);
        x.otherwise(0, 7, 1, 2);
        x.run();
        Due.is("another TABLE finds it so", x.out(1), 41);
    }
}
