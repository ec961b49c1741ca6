import java.util.Arrays;

/** A program for packets, made of tables, and packed into stages. */
public final class StagedTables {
    public static final int UNKNOWN = -1, OUTSIDE = -2, STATE = -3, FULL = -4, NO = -5, NONE = -6;

    private static final int FIELDS = 6, REGISTERS = 4, TABLES = 8, ENTRIES = 4, IMAGES = 2;
    private static final int MOST_STAGES = 8, MOST_ROUNDS = 4, TABLE_SETS = 256;
    private static final int FIELD_LIMIT = 255, REGISTER_LIMIT = 65535;

    /** The slot of a table's acts behind those of its entries. */
    private static final int DEFAULT = ENTRIES;

    private static final int NOTHING = 0, SET = 1, COPY = 2, ADD = 3, MIX = 4;
    private static final int COUNT = 5, TOP = 6, SWAP = 7, DROP = 8, GO_AGAIN = 9;
    private static final int[] GREATEST_X = {0, 255, 5, 255, 5, 3, 3, 3, 0, 0};

    private static final int ROOM = 0, WIDE = 1, STAGES = 2, TIMES = 3;
    private static final int[] FIRST_RULES = {10, 2, 8, 3};
    private static final int[] LEAST_RULES = {5, 1, 1, 1};
    private static final int[] GREATEST_RULES = {20, 4, 8, 4};

    private final Program program = new Program();
    private final Packing packing = new Packing();
    private final Squeeze squeeze = new Squeeze();
    private final Packet last = new Packet();
    /** An image is made when it is first kept, so that null tells that nothing was. */
    private final Program[] images = new Program[IMAGES];
    private int packetsDone;
    private int packetsDropped;
    private int roundsDone;

    public StagedTables() {
    }

    // ---- 1 the program

    public int table(int key) {
        if (!isIn(key, FIELDS)) {
            return UNKNOWN;
        }
        if (program.size >= TABLES) {
            return FULL;
        }
        return program.addTable(key);
    }

    public int entry(int table, int value, int kind, int target, int x) {
        if (!program.hasTable(table)) {
            return UNKNOWN;
        }
        if (!isUpTo(value, FIELD_LIMIT) || !isAct(kind, target, x)) {
            return OUTSIDE;
        }
        Table changed = program.tables[table];
        if (changed.slotOf(value) != DEFAULT || program.isTakenElsewhere(table, kind, x)) {
            return NO;
        }
        if (changed.entries >= ENTRIES) {
            return FULL;
        }
        return changed.addEntry(value, kind, target, x);
    }

    public int otherwise(int table, int kind, int target, int x) {
        if (!program.hasTable(table)) {
            return UNKNOWN;
        }
        if (!isAct(kind, target, x)) {
            return OUTSIDE;
        }
        if (program.isTakenElsewhere(table, kind, x)) {
            return NO;
        }
        Act act = program.tables[table].acts[DEFAULT];
        int before = act.kind;
        act.become(kind, target, x);
        return before;
    }

    public int forget(int table, int entry) {
        if (!program.hasTable(table)) {
            return UNKNOWN;
        }
        Table changed = program.tables[table];
        if (!isIn(entry, changed.entries)) {
            return OUTSIDE;
        }
        return changed.removeEntry(entry);
    }

    public int drop(int table) {
        if (!program.hasTable(table)) {
            return UNKNOWN;
        }
        return program.removeTable(table);
    }

    public int rule(int what, int n) {
        if (!isIn(what, FIRST_RULES.length) || n < LEAST_RULES[what] || n > GREATEST_RULES[what]) {
            return OUTSIDE;
        }
        int before = program.rules[what];
        program.rules[what] = n;
        return before;
    }

    public int told(int table, int what) {
        if (!program.hasTable(table)) {
            return UNKNOWN;
        }
        Table asked = program.tables[table];
        switch (what) {
            case 0:
                return asked.key;
            case 1:
                return asked.entries;
            case 2:
                packing.arrange(program);
                return packing.levels[table];
            case 3:
                packing.arrange(program);
                return packing.packed ? packing.places[table] : STATE;
            case 4:
                return asked.writtenFields();
            case 5:
                return asked.readFields();
            case 6:
                return asked.ownRegisters();
            default:
                return asked.partOfAct(what);
        }
    }

    public int needs(int one, int other) {
        if (!program.hasTable(one) || !program.hasTable(other)) {
            return UNKNOWN;
        }
        if (one == other) {
            return OUTSIDE;
        }
        packing.arrange(program);
        return packing.needOf(Math.max(one, other), Math.min(one, other));
    }

    // ---- 2 stages

    public int stages() {
        packing.arrange(program);
        return packing.packed ? packing.stagesWithTables() : STATE;
    }

    public int stage(int i, int what) {
        if (!isIn(i, MOST_STAGES) || !isUpTo(what, 1)) {
            return OUTSIDE;
        }
        packing.arrange(program);
        if (!packing.packed) {
            return STATE;
        }
        return what == 0 ? packing.stageTables[i] : packing.stageSizes[i];
    }

    public int fewest() {
        packing.arrange(program);
        return squeeze.fewestStages(packing, program);
    }

    // ---- 3 packets

    public int tell(int field, int n) {
        if (!isIn(field, FIELDS)) {
            return UNKNOWN;
        }
        if (!isUpTo(n, FIELD_LIMIT)) {
            return OUTSIDE;
        }
        int before = program.toldFields[field];
        program.toldFields[field] = n;
        return before;
    }

    public int put(int register, int n) {
        if (!isIn(register, REGISTERS)) {
            return UNKNOWN;
        }
        if (!isUpTo(n, REGISTER_LIMIT)) {
            return OUTSIDE;
        }
        int before = program.registers[register];
        program.registers[register] = n;
        return before;
    }

    public int register(int register) {
        return isIn(register, REGISTERS) ? program.registers[register] : UNKNOWN;
    }

    public int run() {
        packing.arrange(program);
        if (!packing.packed) {
            return STATE;
        }
        last.passThrough(program);
        packetsDone++;
        roundsDone += last.rounds;
        if (last.dropped) {
            packetsDropped++;
            return 1;
        }
        return last.again ? 2 : 0;
    }

    public int out(int what) {
        if (!isUpTo(what, FIELDS)) {
            return OUTSIDE;
        }
        if (packetsDone == 0) {
            return NONE;
        }
        return what == FIELDS ? last.rounds : last.fields[what];
    }

    public int took(int table, int round) {
        if (!isIn(table, TABLES) || !isIn(round, MOST_ROUNDS)) {
            return OUTSIDE;
        }
        if (table >= last.tables || round >= last.rounds) {
            return NONE;
        }
        return last.slots[round][table];
    }

    // ---- 4 images

    public int image(int k) {
        if (!isIn(k, IMAGES)) {
            return OUTSIDE;
        }
        if (images[k] == null) {
            images[k] = new Program();
        }
        images[k].copy(program);
        return 1;
    }

    public int restore(int k) {
        if (!isIn(k, IMAGES)) {
            return OUTSIDE;
        }
        if (images[k] == null) {
            return STATE;
        }
        program.copy(images[k]);
        return 1;
    }

    public int count(int what) {
        switch (what) {
            case 0:
                return program.size;
            case 1:
                return program.rules[ROOM];
            case 2:
                return program.rules[WIDE];
            case 3:
                return program.rules[STAGES];
            case 4:
                return program.rules[TIMES];
            case 5:
                return packetsDone;
            case 6:
                return packetsDropped;
            case 7:
                return roundsDone;
            case 8:
                packing.arrange(program);
                return packing.packed ? 1 : 0;
            case 9:
                return keptImages();
            default:
                return what >= 10 && what < 10 + FIELDS ? program.toldFields[what - 10] : OUTSIDE;
        }
    }

    private int keptImages() {
        int kept = 0;
        for (int k = 0; k < IMAGES; k++) {
            if (images[k] != null) {
                kept |= 1 << k;
            }
        }
        return kept;
    }

    private static boolean isIn(int n, int size) {
        return n >= 0 && n < size;
    }

    private static boolean isUpTo(int n, int greatest) {
        return n >= 0 && n <= greatest;
    }

    private static boolean hasTarget(int kind) {
        return kind >= SET && kind <= SWAP;
    }

    private static boolean hasRegister(int kind) {
        return kind >= COUNT && kind <= SWAP;
    }

    private static boolean isAct(int kind, int target, int x) {
        if (!isIn(kind, GREATEST_X.length)) {
            return false;
        }
        return !hasTarget(kind) || (isIn(target, FIELDS) && isUpTo(x, GREATEST_X[kind]));
    }

    /** What a table does; a target or an x that is no matter is NONE. */
    private static final class Act {
        int kind = NOTHING;
        int target = NONE;
        int x = NONE;

        void become(int newKind, int newTarget, int newX) {
            kind = newKind;
            target = hasTarget(newKind) ? newTarget : NONE;
            x = hasTarget(newKind) ? newX : NONE;
        }

        void copy(Act other) {
            kind = other.kind;
            target = other.target;
            x = other.x;
        }

        int writtenFields() {
            return hasTarget(kind) ? 1 << target : 0;
        }

        int readFields() {
            switch (kind) {
                case COPY:
                    return 1 << x;
                case ADD:
                case TOP:
                case SWAP:
                    return 1 << target;
                case MIX:
                    return 1 << target | 1 << x;
                default:
                    return 0;
            }
        }

        int ownRegisters() {
            return hasRegister(kind) ? 1 << x : 0;
        }
    }

    /** A key, the entries as they came, and behind all of their slots the default. */
    private static final class Table {
        int key;
        int entries;
        final int[] values = new int[ENTRIES];
        final Act[] acts = new Act[ENTRIES + 1];

        Table() {
            for (int slot = 0; slot <= ENTRIES; slot++) {
                acts[slot] = new Act();
            }
        }

        void begin(int newKey) {
            key = newKey;
            entries = 0;
            acts[DEFAULT].become(NOTHING, NONE, NONE);
        }

        void copy(Table other) {
            key = other.key;
            entries = other.entries;
            System.arraycopy(other.values, 0, values, 0, ENTRIES);
            for (int slot = 0; slot <= ENTRIES; slot++) {
                acts[slot].copy(other.acts[slot]);
            }
        }

        int size() {
            return entries + 1;
        }

        /** The entry with this value, or DEFAULT, if there is none. */
        int slotOf(int value) {
            for (int slot = 0; slot < entries; slot++) {
                if (values[slot] == value) {
                    return slot;
                }
            }
            return DEFAULT;
        }

        int addEntry(int value, int kind, int target, int x) {
            values[entries] = value;
            acts[entries].become(kind, target, x);
            entries++;
            return entries;
        }

        int removeEntry(int entry) {
            for (int slot = entry; slot + 1 < entries; slot++) {
                values[slot] = values[slot + 1];
                acts[slot].copy(acts[slot + 1]);
            }
            entries--;
            return entries;
        }

        /** A slot that no entry has now may hold an act of old. */
        boolean isUsed(int slot) {
            return slot < entries || slot == DEFAULT;
        }

        int writtenFields() {
            int fields = 0;
            for (int slot = 0; slot <= ENTRIES; slot++) {
                fields |= isUsed(slot) ? acts[slot].writtenFields() : 0;
            }
            return fields;
        }

        int readFields() {
            int fields = 1 << key;
            for (int slot = 0; slot <= ENTRIES; slot++) {
                fields |= isUsed(slot) ? acts[slot].readFields() : 0;
            }
            return fields;
        }

        int ownRegisters() {
            int registers = 0;
            for (int slot = 0; slot <= ENTRIES; slot++) {
                registers |= isUsed(slot) ? acts[slot].ownRegisters() : 0;
            }
            return registers;
        }

        /** Four numbers for each entry from 10 on, and for the default, which has no value, from 31 on. */
        int partOfAct(int what) {
            boolean ofEntry = what >= 10 && what < 10 + 4 * entries;
            boolean ofDefault = what >= 31 && what <= 33;
            if (!ofEntry && !ofDefault) {
                return OUTSIDE;
            }
            int slot = ofEntry ? (what - 10) / 4 : DEFAULT;
            switch ((what - 10) % 4) {
                case 0:
                    return values[slot];
                case 1:
                    return acts[slot].kind;
                case 2:
                    return acts[slot].target;
                default:
                    return acts[slot].x;
            }
        }
    }

    /** All that an image keeps. */
    private static final class Program {
        int size;
        final Table[] tables = new Table[TABLES];
        final int[] registers = new int[REGISTERS];
        final int[] rules = FIRST_RULES.clone();
        final int[] toldFields = new int[FIELDS];

        Program() {
            for (int t = 0; t < TABLES; t++) {
                tables[t] = new Table();
            }
        }

        void copy(Program other) {
            size = other.size;
            for (int t = 0; t < size; t++) {
                tables[t].copy(other.tables[t]);
            }
            System.arraycopy(other.registers, 0, registers, 0, REGISTERS);
            System.arraycopy(other.rules, 0, rules, 0, rules.length);
            System.arraycopy(other.toldFields, 0, toldFields, 0, FIELDS);
        }

        boolean hasTable(int table) {
            return isIn(table, size);
        }

        int addTable(int key) {
            tables[size].begin(key);
            size++;
            return size - 1;
        }

        int removeTable(int table) {
            Table gone = tables[table];
            for (int t = table; t + 1 < size; t++) {
                tables[t] = tables[t + 1];
            }
            size--;
            tables[size] = gone;
            return size;
        }

        /** Whether an act of this kind would use a register that is another table's. */
        boolean isTakenElsewhere(int table, int kind, int x) {
            if (!hasRegister(kind)) {
                return false;
            }
            int taken = 0;
            for (int t = 0; t < size; t++) {
                taken |= t == table ? 0 : tables[t].ownRegisters();
            }
            return (taken & 1 << x) != 0;
        }
    }

    /** What the tables of a program need of one another, and where each one is put. */
    private static final class Packing {
        final int[] keys = new int[TABLES];
        final int[] writes = new int[TABLES];
        final int[] reads = new int[TABLES];
        final int[] sizes = new int[TABLES];
        /** For each table the set of those of which it needs 2 or 3, and of those of which it needs 1. */
        final int[] mustFollow = new int[TABLES];
        final int[] mayJoin = new int[TABLES];
        final int[] levels = new int[TABLES];
        final int[] places = new int[TABLES];
        final int[] stageTables = new int[MOST_STAGES];
        final int[] stageSizes = new int[MOST_STAGES];
        boolean packed;

        void arrange(Program program) {
            for (int t = 0; t < program.size; t++) {
                look(t, program.tables[t]);
            }
            Arrays.fill(stageTables, 0);
            Arrays.fill(stageSizes, 0);
            packed = true;
            for (int t = 0; t < program.size && packed; t++) {
                packed = place(t, program.rules);
            }
        }

        private void look(int t, Table table) {
            keys[t] = table.key;
            writes[t] = table.writtenFields();
            reads[t] = table.readFields();
            sizes[t] = table.size();
            mustFollow[t] = 0;
            mayJoin[t] = 0;
            levels[t] = 0;
            for (int earlier = 0; earlier < t; earlier++) {
                int need = needOf(t, earlier);
                if (need >= 2) {
                    mustFollow[t] |= 1 << earlier;
                    levels[t] = Math.max(levels[t], levels[earlier] + 1);
                } else if (need == 1) {
                    mayJoin[t] |= 1 << earlier;
                }
            }
        }

        int needOf(int later, int earlier) {
            if ((writes[earlier] & 1 << keys[later]) != 0) {
                return 3;
            }
            if ((writes[earlier] & (reads[later] | writes[later])) != 0) {
                return 2;
            }
            return (writes[later] & reads[earlier]) != 0 ? 1 : 0;
        }

        private boolean place(int t, int[] rules) {
            for (int s = leastStage(t); s < rules[STAGES]; s++) {
                if (Integer.bitCount(stageTables[s]) < rules[WIDE] && stageSizes[s] + sizes[t] <= rules[ROOM]) {
                    places[t] = s;
                    stageTables[s] |= 1 << t;
                    stageSizes[s] += sizes[t];
                    return true;
                }
            }
            return false;
        }

        private int leastStage(int t) {
            int least = 0;
            for (int earlier = 0; earlier < t; earlier++) {
                if ((mustFollow[t] & 1 << earlier) != 0) {
                    least = Math.max(least, places[earlier] + 1);
                } else if ((mayJoin[t] & 1 << earlier) != 0) {
                    least = Math.max(least, places[earlier]);
                }
            }
            return least;
        }

        int stagesWithTables() {
            int used = 0;
            for (int s = 0; s < MOST_STAGES; s++) {
                used += stageTables[s] != 0 ? 1 : 0;
            }
            return used;
        }
    }

    /** Finds the fewest stages by going through all sets of tables that the first few stages may hold. */
    private static final class Squeeze {
        private static final int OUT_OF_REACH = 99;

        /** For each set of tables: how few stages can hold just these, their sizes together, what they may join. */
        final int[] stagesOf = new int[TABLE_SETS];
        final int[] sizes = new int[TABLE_SETS];
        final int[] mayJoin = new int[TABLE_SETS];

        int fewestStages(Packing packing, Program program) {
            int all = (1 << program.size) - 1;
            measure(packing, program.size);
            Arrays.fill(stagesOf, OUT_OF_REACH);
            stagesOf[0] = 0;
            // A set is greater, as a number, than any part of it: so it is final when it is come to.
            for (int done = 0; done < all; done++) {
                if (stagesOf[done] != OUT_OF_REACH) {
                    addStage(done, ready(done, packing, program.size), program.rules);
                }
            }
            return stagesOf[all];
        }

        private void measure(Packing packing, int tables) {
            for (int t = 0; t < tables; t++) {
                for (int set = 1 << t; set < 2 << t; set++) {
                    int rest = set ^ 1 << t;
                    sizes[set] = sizes[rest] + packing.sizes[t];
                    mayJoin[set] = mayJoin[rest] | packing.mayJoin[t];
                }
            }
        }

        /** The tables that are not done and need 2 or 3 of none that is not done. */
        private int ready(int done, Packing packing, int tables) {
            int ready = 0;
            for (int t = 0; t < tables; t++) {
                if ((done & 1 << t) == 0 && (packing.mustFollow[t] & ~done) == 0) {
                    ready |= 1 << t;
                }
            }
            return ready;
        }

        private void addStage(int done, int ready, int[] rules) {
            // Every part of ready, by falling numbers.
            for (int set = ready; set > 0; set = (set - 1) & ready) {
                boolean fits = Integer.bitCount(set) <= rules[WIDE] && sizes[set] <= rules[ROOM];
                if (fits && (mayJoin[set] & ~(done | set)) == 0) {
                    stagesOf[done | set] = Math.min(stagesOf[done | set], stagesOf[done] + 1);
                }
            }
        }
    }

    /** The packet that is being done, or was done last. */
    private static final class Packet {
        final int[] fields = new int[FIELDS];
        boolean dropped;
        boolean again;
        int rounds;
        int tables;
        /** By round and table: the entry that was taken, or DEFAULT. */
        final int[][] slots = new int[MOST_ROUNDS][TABLES];

        void passThrough(Program program) {
            System.arraycopy(program.toldFields, 0, fields, 0, FIELDS);
            tables = program.size;
            dropped = false;
            boolean goesOn = true;
            for (int round = 0; round < program.rules[TIMES] && goesOn; round++) {
                again = false;
                doRound(program, slots[round]);
                rounds = round + 1;
                goesOn = again && !dropped;
            }
        }

        /** Table by table: the packing puts no two into one stage, or out of order, where that would differ. */
        private void doRound(Program program, int[] taken) {
            for (int t = 0; t < program.size; t++) {
                Table table = program.tables[t];
                taken[t] = table.slotOf(fields[table.key]);
                apply(table.acts[taken[t]], program.registers);
            }
        }

        private void apply(Act act, int[] registers) {
            switch (act.kind) {
                case SET:
                    fields[act.target] = act.x;
                    break;
                case COPY:
                    fields[act.target] = fields[act.x];
                    break;
                case ADD:
                    fields[act.target] = (fields[act.target] + act.x) & FIELD_LIMIT;
                    break;
                case MIX:
                    fields[act.target] ^= fields[act.x];
                    break;
                case COUNT:
                    registers[act.x] = (registers[act.x] + 1) & REGISTER_LIMIT;
                    fields[act.target] = registers[act.x] & FIELD_LIMIT;
                    break;
                case TOP:
                    keepTop(act.target, registers, act.x);
                    break;
                case SWAP:
                    swap(act.target, registers, act.x);
                    break;
                case DROP:
                    dropped = true;
                    break;
                case GO_AGAIN:
                    again = true;
                    break;
                default:
                    break;
            }
        }

        private void keepTop(int target, int[] registers, int r) {
            boolean greater = fields[target] > registers[r];
            if (greater) {
                registers[r] = fields[target];
            }
            fields[target] = greater ? 1 : 0;
        }

        private void swap(int target, int[] registers, int r) {
            int before = registers[r];
            registers[r] = fields[target];
            fields[target] = before & FIELD_LIMIT;
        }
    }
}
