import java.util.ArrayList;
import java.util.Arrays;
import java.util.List;
import java.util.function.Predicate;

/** The document once more, told as plainly as can be, and in other ways than in the class: packets go by stages. */
final class Model {
    private record Act(int kind, int target, int x) {
        boolean writes(int field) {
            return kind >= 1 && kind <= 7 && target == field;
        }

        boolean reads(int field) {
            return switch (kind) {
                case 2 -> x == field;
                case 3, 6, 7 -> target == field;
                case 4 -> x == field || target == field;
                default -> false;
            };
        }

        boolean has(int register) {
            return (kind == 5 || kind == 6 || kind == 7) && x == register;
        }
    }

    private record Entry(int value, Act act) {
    }

    private static final class Table {
        int key;
        List<Entry> entries = new ArrayList<>();
        Act byDefault = new Act(0, 0, 0);

        Table copy() {
            Table t = new Table();
            t.key = key;
            t.entries = new ArrayList<>(entries);
            t.byDefault = byDefault;
            return t;
        }

        boolean any(Predicate<Act> what) {
            for (Entry e : entries) {
                if (what.test(e.act())) {
                    return true;
                }
            }
            return what.test(byDefault);
        }

        boolean writes(int field) {
            return any(a -> a.writes(field));
        }

        boolean reads(int field) {
            return key == field || any(a -> a.reads(field));
        }

        boolean has(int register) {
            return any(a -> a.has(register));
        }
    }

    private static final class Kept {
        List<Table> tables = new ArrayList<>();
        int[] registers = new int[4];
        int[] rules = {10, 2, 8, 3};
        int[] told = new int[6];

        Kept copy() {
            Kept k = new Kept();
            tables.forEach(t -> k.tables.add(t.copy()));
            k.registers = registers.clone();
            k.rules = rules.clone();
            k.told = told.clone();
            return k;
        }
    }

    private Kept now = new Kept();
    private final Kept[] images = new Kept[2];
    private int done, dropped, rounds;
    private int[] lastFields;
    private List<int[]> lastTook = new ArrayList<>();

    private static boolean in(int n, int least, int greatest) {
        return n >= least && n <= greatest;
    }

    private boolean isTable(int t) {
        return in(t, 0, now.tables.size() - 1);
    }

    int table(int key) {
        if (!in(key, 0, 5)) {
            return -1;
        }
        if (now.tables.size() == 8) {
            return -4;
        }
        Table t = new Table();
        t.key = key;
        now.tables.add(t);
        return now.tables.size() - 1;
    }

    private boolean outside(int kind, int target, int x) {
        return switch (kind) {
            case 0, 8, 9 -> false;
            case 1, 3 -> !in(target, 0, 5) || !in(x, 0, 255);
            case 2, 4 -> !in(target, 0, 5) || !in(x, 0, 5);
            case 5, 6, 7 -> !in(target, 0, 5) || !in(x, 0, 3);
            default -> true;
        };
    }

    private boolean anothers(int table, Act act) {
        for (int t = 0; t < now.tables.size(); t++) {
            for (int r = 0; r < 4; r++) {
                if (t != table && act.has(r) && now.tables.get(t).has(r)) {
                    return true;
                }
            }
        }
        return false;
    }

    int entry(int table, int value, int kind, int target, int x) {
        if (!isTable(table)) {
            return -1;
        }
        if (!in(value, 0, 255) || outside(kind, target, x)) {
            return -2;
        }
        List<Entry> entries = now.tables.get(table).entries;
        Act act = new Act(kind, target, x);
        if (entries.stream().anyMatch(e -> e.value() == value) || anothers(table, act)) {
            return -5;
        }
        if (entries.size() == 4) {
            return -4;
        }
        entries.add(new Entry(value, act));
        return entries.size();
    }

    int otherwise(int table, int kind, int target, int x) {
        if (!isTable(table)) {
            return -1;
        }
        if (outside(kind, target, x)) {
            return -2;
        }
        Act act = new Act(kind, target, x);
        if (anothers(table, act)) {
            return -5;
        }
        int was = now.tables.get(table).byDefault.kind();
        now.tables.get(table).byDefault = act;
        return was;
    }

    int forget(int table, int entry) {
        if (!isTable(table)) {
            return -1;
        }
        List<Entry> entries = now.tables.get(table).entries;
        if (!in(entry, 0, entries.size() - 1)) {
            return -2;
        }
        entries.remove(entry);
        return entries.size();
    }

    int drop(int table) {
        if (!isTable(table)) {
            return -1;
        }
        now.tables.remove(table);
        return now.tables.size();
    }

    int rule(int what, int n) {
        boolean right = switch (what) {
            case 0 -> in(n, 5, 20);
            case 1 -> in(n, 1, 4);
            case 2 -> in(n, 1, 8);
            case 3 -> in(n, 1, 4);
            default -> false;
        };
        if (!right) {
            return -2;
        }
        int was = now.rules[what];
        now.rules[what] = n;
        return was;
    }

    private static int part(Act act, int which) {
        boolean noMatter = List.of(0, 8, 9).contains(act.kind());
        return switch (which) {
            case 1 -> act.kind();
            case 2 -> noMatter ? -6 : act.target();
            default -> noMatter ? -6 : act.x();
        };
    }

    int told(int table, int what) {
        if (!isTable(table)) {
            return -1;
        }
        Table t = now.tables.get(table);
        int set = 0;
        switch (what) {
            case 0:
                return t.key;
            case 1:
                return t.entries.size();
            case 2:
                return level(table);
            case 3:
                int[] places = places();
                return places == null ? -3 : places[table];
            case 4:
                for (int f = 0; f < 6; f++) {
                    set += t.writes(f) ? 1 << f : 0;
                }
                return set;
            case 5:
                for (int f = 0; f < 6; f++) {
                    set += t.reads(f) ? 1 << f : 0;
                }
                return set;
            case 6:
                for (int r = 0; r < 4; r++) {
                    set += t.has(r) ? 1 << r : 0;
                }
                return set;
            case 31:
            case 32:
            case 33:
                return part(t.byDefault, what - 30);
            default:
        }
        for (int e = 0; e < t.entries.size(); e++) {
            if (what == 10 + 4 * e) {
                return t.entries.get(e).value();
            }
            for (int which = 1; which <= 3; which++) {
                if (what == 10 + which + 4 * e) {
                    return part(t.entries.get(e).act(), which);
                }
            }
        }
        return -2;
    }

    private int need(int earlier, int later) {
        Table e = now.tables.get(earlier);
        Table l = now.tables.get(later);
        int need = 0;
        for (int f = 0; f < 6; f++) {
            if (l.writes(f) && e.reads(f)) {
                need = Math.max(need, 1);
            }
            if (e.writes(f) && (l.reads(f) || l.writes(f))) {
                need = Math.max(need, 2);
            }
            if (e.writes(f) && l.key == f) {
                need = 3;
            }
        }
        return need;
    }

    private int level(int table) {
        int level = 0;
        for (int e = 0; e < table; e++) {
            if (need(e, table) >= 2) {
                level = Math.max(level, level(e) + 1);
            }
        }
        return level;
    }

    int needs(int one, int other) {
        if (!isTable(one) || !isTable(other)) {
            return -1;
        }
        return one == other ? -2 : one < other ? need(one, other) : need(other, one);
    }

    private int size(int table) {
        return now.tables.get(table).entries.size() + 1;
    }

    private int[][] allNeeds() {
        int[][] needs = new int[now.tables.size()][now.tables.size()];
        for (int later = 0; later < needs.length; later++) {
            for (int earlier = 0; earlier < later; earlier++) {
                needs[earlier][later] = need(earlier, later);
            }
        }
        return needs;
    }

    /** Whether a table may be put into a stage, those before it having their places. */
    private boolean may(int table, int stage, int[] places, int[][] needs) {
        int many = 0;
        int size = size(table);
        for (int e = 0; e < table; e++) {
            int need = needs[e][table];
            if (need >= 2 && stage <= places[e] || need == 1 && stage < places[e]) {
                return false;
            }
            if (places[e] == stage) {
                many++;
                size += size(e);
            }
        }
        return many < now.rules[1] && size <= now.rules[0];
    }

    private int[] places() {
        int[] places = new int[now.tables.size()];
        int[][] needs = allNeeds();
        for (int t = 0; t < places.length; t++) {
            int s = 0;
            while (!may(t, s, places, needs)) {
                s++;
            }
            if (s >= now.rules[2]) {
                return null;
            }
            places[t] = s;
        }
        return places;
    }

    int stages() {
        int[] places = places();
        return places == null ? -3 : (int) Arrays.stream(places).distinct().count();
    }

    int stage(int i, int what) {
        if (!in(i, 0, 7) || !in(what, 0, 1)) {
            return -2;
        }
        int[] places = places();
        if (places == null) {
            return -3;
        }
        int sum = 0;
        for (int t = 0; t < places.length; t++) {
            if (places[t] == i) {
                sum += what == 0 ? 1 << t : size(t);
            }
        }
        return sum;
    }

    private boolean canBePut(int table, int stages, int[] places, int[][] needs) {
        if (table == places.length) {
            return true;
        }
        for (int s = 0; s < stages; s++) {
            if (may(table, s, places, needs)) {
                places[table] = s;
                if (canBePut(table + 1, stages, places, needs)) {
                    return true;
                }
            }
        }
        return false;
    }

    int fewest() {
        int stages = 0;
        int[][] needs = allNeeds();
        while (!canBePut(0, stages, new int[now.tables.size()], needs)) {
            stages++;
        }
        return stages;
    }

    int tell(int field, int n) {
        if (!in(field, 0, 5)) {
            return -1;
        }
        if (!in(n, 0, 255)) {
            return -2;
        }
        int was = now.told[field];
        now.told[field] = n;
        return was;
    }

    int put(int register, int n) {
        if (!in(register, 0, 3)) {
            return -1;
        }
        if (!in(n, 0, 65535)) {
            return -2;
        }
        int was = now.registers[register];
        now.registers[register] = n;
        return was;
    }

    int register(int register) {
        return in(register, 0, 3) ? now.registers[register] : -1;
    }

    int run() {
        int[] places = places();
        if (places == null) {
            return -3;
        }
        lastFields = now.told.clone();
        lastTook = new ArrayList<>();
        boolean[] marks = new boolean[2];
        do {
            marks[1] = false;
            int[] took = new int[places.length];
            for (int s = 0; s < 8; s++) {
                doStage(s, places, took, marks);
            }
            lastTook.add(took);
        } while (!marks[0] && marks[1] && lastTook.size() < now.rules[3]);
        done++;
        dropped += marks[0] ? 1 : 0;
        rounds += lastTook.size();
        return marks[0] ? 1 : marks[1] ? 2 : 0;
    }

    /** By falling numbers, as the order in a stage is no matter. */
    private void doStage(int stage, int[] places, int[] took, boolean[] marks) {
        int[] before = lastFields.clone();
        for (int t = places.length - 1; t >= 0; t--) {
            if (places[t] != stage) {
                continue;
            }
            Table table = now.tables.get(t);
            Act act = table.byDefault;
            took[t] = 4;
            for (int e = 0; e < table.entries.size(); e++) {
                if (table.entries.get(e).value() == before[table.key]) {
                    act = table.entries.get(e).act();
                    took[t] = e;
                }
            }
            marks[0] |= act.kind() == 8;
            marks[1] |= act.kind() == 9;
            if (in(act.kind(), 1, 7)) {
                lastFields[act.target()] = becomes(act, before);
            }
        }
    }

    private int becomes(Act act, int[] before) {
        int is = before[act.target()];
        int[] r = now.registers;
        int x = act.x();
        switch (act.kind()) {
            case 1:
                return x;
            case 2:
                return before[x];
            case 3:
                return is + x > 255 ? is + x - 256 : is + x;
            case 4:
                return is ^ before[x];
            case 5:
                r[x] = r[x] == 65535 ? 0 : r[x] + 1;
                return r[x] % 256;
            case 6:
                if (is > r[x]) {
                    r[x] = is;
                    return 1;
                }
                return 0;
            default:
                int was = r[x];
                r[x] = is;
                return was % 256;
        }
    }

    int out(int what) {
        if (!in(what, 0, 6)) {
            return -2;
        }
        if (lastFields == null) {
            return -6;
        }
        return what == 6 ? lastTook.size() : lastFields[what];
    }

    int took(int table, int round) {
        if (!in(table, 0, 7) || !in(round, 0, 3)) {
            return -2;
        }
        if (round >= lastTook.size() || table >= lastTook.get(round).length) {
            return -6;
        }
        return lastTook.get(round)[table];
    }

    int image(int k) {
        if (!in(k, 0, 1)) {
            return -2;
        }
        images[k] = now.copy();
        return 1;
    }

    int restore(int k) {
        if (!in(k, 0, 1)) {
            return -2;
        }
        if (images[k] == null) {
            return -3;
        }
        now = images[k].copy();
        return 1;
    }

    int count(int what) {
        return switch (what) {
            case 0 -> now.tables.size();
            case 1, 2, 3, 4 -> now.rules[what - 1];
            case 5 -> done;
            case 6 -> dropped;
            case 7 -> rounds;
            case 8 -> places() == null ? 0 : 1;
            case 9 -> (images[0] == null ? 0 : 1) + (images[1] == null ? 0 : 2);
            case 10, 11, 12, 13, 14, 15 -> now.told[what - 10];
            default -> -2;
        };
    }
}
