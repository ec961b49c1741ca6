import java.util.ArrayList;
import java.util.List;
import java.util.function.Supplier;

/** "Terms": what a refused call answers first, and that it changes nothing. */
public final class TermsEdgesTest {
    private interface Call {
        int on(StagedTables x);
    }

    private record Refused(String name, int due, Call call) {
    }

    private static final int UNKNOWN = -1, OUTSIDE = -2, STATE = -3, FULL = -4, NO = -5;
    private static final int[] FAR = {Integer.MIN_VALUE, -65536, -256, -1, 65536, 1 << 30, Integer.MAX_VALUE};

    private TermsEdgesTest() {
    }

    public static void main(String[] args) {
        unknownFirst();
        outsideBeforeStateNoAndFull();
        stateBeforeNothingElse();
        noBeforeFull();
        aSetIsANumber();
        refusedInEveryState();
        refusedByANewObject();
        refusedByASmallOne();
        refusedByAFullOne();
        refusedByOneThatIsNotPacked();
        Due.end();
    }

    /** "UNKNOWN -1": ahead of all others that fit, too. */
    private static void unknownFirst() {
        StagedTables x = Makers.notPacked();
        Due.is("UNKNOWN before FULL: table(6)", x.table(6), UNKNOWN);
        Due.is("UNKNOWN before OUTSIDE: entry", x.entry(8, 256, 10, 6, 256), UNKNOWN);
        Due.is("UNKNOWN before NO: entry", x.entry(8, 0, 5, 0, 0), UNKNOWN);
        Due.is("UNKNOWN before OUTSIDE: otherwise", x.otherwise(8, 10, 6, 256), UNKNOWN);
        Due.is("UNKNOWN before NO: otherwise", x.otherwise(8, 5, 0, 0), UNKNOWN);
        Due.is("UNKNOWN before OUTSIDE: forget", x.forget(8, 4), UNKNOWN);
        Due.is("UNKNOWN before OUTSIDE: told", x.told(8, 7), UNKNOWN);
        Due.is("UNKNOWN before STATE: told", x.told(8, 3), UNKNOWN);
        Due.is("UNKNOWN before OUTSIDE: needs", x.needs(8, 8), UNKNOWN);
        Due.is("UNKNOWN before OUTSIDE: tell", x.tell(6, 256), UNKNOWN);
        Due.is("UNKNOWN before OUTSIDE: put", x.put(4, 65536), UNKNOWN);
    }

    /** "OUTSIDE -2": behind UNKNOWN alone. */
    private static void outsideBeforeStateNoAndFull() {
        StagedTables x = Makers.notPacked();
        Due.is("OUTSIDE before STATE: told", x.told(0, 34), OUTSIDE);
        Due.is("OUTSIDE before STATE: stage, i", x.stage(8, 0), OUTSIDE);
        Due.is("OUTSIDE before STATE: stage, what", x.stage(0, 2), OUTSIDE);
        Due.is("OUTSIDE before NO, FULL: entry, x", x.entry(0, 0, 5, 0, 4), OUTSIDE);
        Due.is("OUTSIDE before NO, FULL: entry, target", x.entry(0, 0, 5, 6, 1), OUTSIDE);
        Due.is("OUTSIDE before NO, FULL: entry, kind", x.entry(0, 0, 10, 0, 1), OUTSIDE);
        Due.is("OUTSIDE before NO, FULL: entry, value", x.entry(0, 256, 5, 0, 1), OUTSIDE);
        Due.is("OUTSIDE before NO: otherwise, target", x.otherwise(0, 5, 6, 1), OUTSIDE);
        StagedTables y = new StagedTables();
        Due.is("OUTSIDE before STATE: restore", y.restore(2), OUTSIDE);
        Due.is("OUTSIDE before NONE: out", y.out(7), OUTSIDE);
        Due.is("OUTSIDE before NONE: took, table", y.took(8, 0), OUTSIDE);
        Due.is("OUTSIDE before NONE: took, round", y.took(0, 4), OUTSIDE);
    }

    /** "STATE -3 (the program is not PACKED, if nothing else is told)". */
    private static void stateBeforeNothingElse() {
        StagedTables x = Makers.notPacked();
        Due.is("STATE: stages", x.stages(), STATE);
        Due.is("STATE: stage, tables", x.stage(0, 0), STATE);
        Due.is("STATE: stage, sizes", x.stage(7, 1), STATE);
        Due.is("STATE: told, stage", x.told(0, 3), STATE);
        Due.is("STATE: run", x.run(), STATE);
        Due.is("not STATE: told, level", x.told(0, 2), 0);
        Due.is("not STATE: needs", x.needs(0, 6), 3);
        Due.is("not STATE: fewest", x.fewest(), 8);
        Due.is("not STATE: count(8)", x.count(8), 0);
        Due.is("not STATE: out", x.out(6), 4);
        Due.is("not STATE: tell", x.tell(0, 0), 250);
        Due.is("not STATE: image", x.image(0), 1);
        Due.is("not STATE: restore", x.restore(1), 1);
        Due.is("STATE, another is told: restore", new StagedTables().restore(0), STATE);
    }

    /** "NO -5 (as told), FULL -4": NO ahead of FULL. */
    private static void noBeforeFull() {
        StagedTables x = Makers.full();
        Due.is("NO before FULL: a VALUE that is there", x.entry(0, 0, 0, 0, 0), NO);
        Due.is("NO before FULL: another's REGISTER", x.entry(0, 1, 5, 0, 1), NO);
        Due.is("NO before FULL: both", x.entry(0, 0, 5, 0, 1), NO);
        Due.is("FULL: neither", x.entry(0, 1, 5, 0, 0), FULL);
        Due.is("FULL: another kind", x.entry(0, 1, 0, 0, 1), FULL);
        Due.is("FULL: tables", x.table(5), FULL);
        Due.is("NO, not full: a VALUE that is there", x.forget(0, 3) + x.entry(0, 0, 0, 0, 0), 3 + NO);
        Due.is("not full: a VALUE that is gone", x.entry(0, 180, 0, 0, 0), 4);
    }

    /** "bit i (of the value 1 shifted left by i) tells whether i is in it". */
    private static void aSetIsANumber() {
        for (int i = 0; i < 6; i++) {
            StagedTables x = new StagedTables();
            x.table(i);
            x.otherwise(0, 1, 5 - i, 0);
            Due.is("set: FIELD " + i + " is read", x.told(0, 5), 1 << i);
            Due.is("set: FIELD " + (5 - i) + " is written", x.told(0, 4), 1 << (5 - i));
        }
        for (int r = 0; r < 4; r++) {
            StagedTables x = new StagedTables();
            x.table(0);
            x.otherwise(0, 5, 0, r);
            Due.is("set: REGISTER " + r, x.told(0, 6), 1 << r);
        }
        StagedTables x = Makers.full();
        for (int t = 0; t < 8; t++) {
            Due.is("set: TABLE " + t, x.stage(t, 0), 1 << t);
        }
        StagedTables y = new StagedTables();
        Due.is("set: no IMAGE", y.count(9), 0);
        y.image(1);
        Due.is("set: IMAGE 1", y.count(9), 2);
    }

    private static List<Refused> always() {
        List<Refused> all = new ArrayList<>();
        for (int n : new int[] {-1, 8}) {
            all.addAll(ofTable(n));
        }
        for (int n : FAR) {
            all.addAll(ofTable(n));
            all.addAll(ofNumber(n));
        }
        all.add(new Refused("table(6)", UNKNOWN, x -> x.table(6)));
        all.add(new Refused("tell(6, 0)", UNKNOWN, x -> x.tell(6, 0)));
        all.add(new Refused("tell(5, 256)", OUTSIDE, x -> x.tell(5, 256)));
        all.add(new Refused("put(4, 0)", UNKNOWN, x -> x.put(4, 0)));
        all.add(new Refused("put(3, 65536)", OUTSIDE, x -> x.put(3, 65536)));
        all.add(new Refused("register(4)", UNKNOWN, x -> x.register(4)));
        all.add(new Refused("stage(8, 0)", OUTSIDE, x -> x.stage(8, 0)));
        all.add(new Refused("stage(0, 2)", OUTSIDE, x -> x.stage(0, 2)));
        all.add(new Refused("out(7)", OUTSIDE, x -> x.out(7)));
        all.add(new Refused("took(8, 0)", OUTSIDE, x -> x.took(8, 0)));
        all.add(new Refused("took(0, 4)", OUTSIDE, x -> x.took(0, 4)));
        all.add(new Refused("image(2)", OUTSIDE, x -> x.image(2)));
        all.add(new Refused("restore(2)", OUTSIDE, x -> x.restore(2)));
        all.add(new Refused("count(16)", OUTSIDE, x -> x.count(16)));
        all.addAll(ofRules());
        return all;
    }

    private static List<Refused> ofTable(int n) {
        return List.of(
            new Refused("entry of table " + n, UNKNOWN, x -> x.entry(n, 200, 1, 0, 0)),
            new Refused("otherwise of table " + n, UNKNOWN, x -> x.otherwise(n, 1, 0, 0)),
            new Refused("forget of table " + n, UNKNOWN, x -> x.forget(n, 0)),
            new Refused("drop of table " + n, UNKNOWN, x -> x.drop(n)),
            new Refused("told of table " + n, UNKNOWN, x -> x.told(n, 0)),
            new Refused("needs, one is table " + n, UNKNOWN, x -> x.needs(n, 0)),
            new Refused("needs, other is table " + n, UNKNOWN, x -> x.needs(0, n)),
            new Refused("needs, both are table " + n, UNKNOWN, x -> x.needs(n, n)));
    }

    private static List<Refused> ofNumber(int n) {
        return List.of(
            new Refused("table(" + n + ")", UNKNOWN, x -> x.table(n)),
            new Refused("rule(" + n + ", 5)", OUTSIDE, x -> x.rule(n, 5)),
            new Refused("stage(" + n + ", 0)", OUTSIDE, x -> x.stage(n, 0)),
            new Refused("stage(0, " + n + ")", OUTSIDE, x -> x.stage(0, n)),
            new Refused("tell(" + n + ", 0)", UNKNOWN, x -> x.tell(n, 0)),
            new Refused("tell(0, " + n + ")", OUTSIDE, x -> x.tell(0, n)),
            new Refused("put(" + n + ", 0)", UNKNOWN, x -> x.put(n, 0)),
            new Refused("put(0, " + n + ")", OUTSIDE, x -> x.put(0, n)),
            new Refused("register(" + n + ")", UNKNOWN, x -> x.register(n)),
            new Refused("out(" + n + ")", OUTSIDE, x -> x.out(n)),
            new Refused("took(" + n + ", 0)", OUTSIDE, x -> x.took(n, 0)),
            new Refused("took(0, " + n + ")", OUTSIDE, x -> x.took(0, n)),
            new Refused("image(" + n + ")", OUTSIDE, x -> x.image(n)),
            new Refused("restore(" + n + ")", OUTSIDE, x -> x.restore(n)),
            new Refused("count(" + n + ")", OUTSIDE, x -> x.count(n)));
    }

    private static List<Refused> ofRules() {
        List<Refused> all = new ArrayList<>();
        int[][] refused = {{4, 21}, {0, 5}, {0, 9}, {0, 5}};
        for (int what = 0; what < 4; what++) {
            int which = what;
            for (int n : refused[what]) {
                all.add(new Refused("rule(" + which + ", " + n + ")", OUTSIDE, x -> x.rule(which, n)));
            }
            for (int n : FAR) {
                all.add(new Refused("rule(" + which + ", " + n + ")", OUTSIDE, x -> x.rule(which, n)));
            }
        }
        all.add(new Refused("rule(4, 5)", OUTSIDE, x -> x.rule(4, 5)));
        return all;
    }

    /** Acts that no table takes, for a table that is there. */
    private static List<Refused> ofActs(int table, int value) {
        List<Refused> all = new ArrayList<>();
        int[] greatest = {0, 255, 5, 255, 5, 3, 3, 3};
        for (int kind = 1; kind <= 7; kind++) {
            int k = kind;
            for (int far : new int[] {-1, 6, Integer.MIN_VALUE, Integer.MAX_VALUE}) {
                all.add(new Refused("entry, kind " + k + ", target " + far, OUTSIDE, x -> x.entry(table, value, k, far, 0)));
                all.add(new Refused("otherwise, kind " + k + ", target " + far, OUTSIDE, x -> x.otherwise(table, k, far, 0)));
            }
            for (int far : new int[] {-1, greatest[k] + 1, Integer.MIN_VALUE, Integer.MAX_VALUE}) {
                all.add(new Refused("entry, kind " + k + ", x " + far, OUTSIDE, x -> x.entry(table, value, k, 0, far)));
                all.add(new Refused("otherwise, kind " + k + ", x " + far, OUTSIDE, x -> x.otherwise(table, k, 0, far)));
            }
        }
        for (int far : new int[] {-1, 10, Integer.MIN_VALUE, Integer.MAX_VALUE}) {
            all.add(new Refused("entry, kind " + far, OUTSIDE, x -> x.entry(table, value, far, 0, 0)));
            all.add(new Refused("otherwise, kind " + far, OUTSIDE, x -> x.otherwise(table, far, 0, 0)));
        }
        for (int far : new int[] {-1, 256, Integer.MIN_VALUE, Integer.MAX_VALUE}) {
            all.add(new Refused("entry, value " + far, OUTSIDE, x -> x.entry(table, far, 0, 0, 0)));
        }
        return all;
    }

    /** "What is refused changes nothing": not what is seen then, nor what is restored, nor what packets do. */
    private static void changeNothing(String state, Supplier<StagedTables> maker, List<Refused> refused) {
        List<Call> thens = List.of(x -> 0, x -> x.restore(0), x -> x.restore(1), x -> x.run(),
            x -> x.table(0), x -> x.entry(0, 250, 8, 0, 0), x -> x.drop(0));
        for (int i = 0; i < thens.size(); i++) {
            StagedTables plain = maker.get();
            int due = thens.get(i).on(plain);
            Seen want = Seen.of(plain);
            for (Refused r : refused) {
                StagedTables x = maker.get();
                String what = state + ", " + r.name();
                Due.is(what, r.call().on(x), r.due());
                Due.is(what + ", the call behind it, " + i, thens.get(i).on(x), due);
                Seen.of(x).sameAs(what + ", and then, " + i, want);
            }
        }
    }

    private static void refusedInEveryState() {
        changeNothing("new", Makers::fresh, always());
        changeNothing("small", Makers::small, always());
        changeNothing("full", Makers::full, always());
        changeNothing("not packed", Makers::notPacked, always());
    }

    private static void refusedByANewObject() {
        List<Refused> all = new ArrayList<>(ofTable(0));
        all.add(new Refused("restore(0)", STATE, x -> x.restore(0)));
        all.add(new Refused("restore(1)", STATE, x -> x.restore(1)));
        changeNothing("new", Makers::fresh, all);
    }

    private static void refusedByASmallOne() {
        List<Refused> all = new ArrayList<>(ofActs(0, 200));
        all.add(new Refused("a value that is there", NO, x -> x.entry(0, 7, 0, 0, 0)));
        all.add(new Refused("another's register, entry", NO, x -> x.entry(0, 200, 6, 0, 2)));
        all.add(new Refused("another's register, otherwise", NO, x -> x.otherwise(0, 7, 0, 2)));
        all.add(new Refused("forget(0, 1)", OUTSIDE, x -> x.forget(0, 1)));
        all.add(new Refused("forget(0, -1)", OUTSIDE, x -> x.forget(0, -1)));
        all.add(new Refused("forget(1, 0)", OUTSIDE, x -> x.forget(1, 0)));
        all.add(new Refused("drop(2)", UNKNOWN, x -> x.drop(2)));
        all.add(new Refused("told(2, 0)", UNKNOWN, x -> x.told(2, 0)));
        all.add(new Refused("told(0, 14)", OUTSIDE, x -> x.told(0, 14)));
        all.add(new Refused("needs(0, 2)", UNKNOWN, x -> x.needs(0, 2)));
        all.add(new Refused("needs(1, 1)", OUTSIDE, x -> x.needs(1, 1)));
        all.add(new Refused("restore(1)", STATE, x -> x.restore(1)));
        changeNothing("small", Makers::small, all);
    }

    private static void refusedByAFullOne() {
        List<Refused> all = new ArrayList<>(ofActs(0, 200));
        for (int f = 0; f < 6; f++) {
            int key = f;
            all.add(new Refused("a ninth table", FULL, x -> x.table(key)));
        }
        for (int t = 0; t < 8; t++) {
            int table = t;
            all.add(new Refused("a fifth entry of " + t, FULL, x -> x.entry(table, 240, 1, 0, 0)));
            all.add(new Refused("a value that is there, of " + t, NO, x -> x.entry(table, 180 + table, 1, 0, 0)));
            all.add(new Refused("forget(" + t + ", 4)", OUTSIDE, x -> x.forget(table, 4)));
            for (int r = 0; r < 4; r++) {
                int register = r;
                if (r != t) {
                    all.add(new Refused("register " + r + " for " + t, NO, x -> x.otherwise(table, 5, 0, register)));
                }
            }
        }
        changeNothing("full", Makers::full, all);
    }

    private static void refusedByOneThatIsNotPacked() {
        List<Refused> all = new ArrayList<>();
        all.add(new Refused("run()", STATE, x -> x.run()));
        all.add(new Refused("stages()", STATE, x -> x.stages()));
        for (int n = 0; n < 8; n++) {
            int i = n;
            all.add(new Refused("stage(" + i + ", 0)", STATE, x -> x.stage(i, 0)));
            all.add(new Refused("stage(" + i + ", 1)", STATE, x -> x.stage(i, 1)));
            all.add(new Refused("told(" + i + ", 3)", STATE, x -> x.told(i, 3)));
        }
        changeNothing("not packed", Makers::notPacked, all);
    }
}
