import java.util.Arrays;

/**
 * A desk for small machine programs: they are typed and run; it is told which registers matter
 * where; and short rows of instructions are replaced by shorter ones that are proved to do the same
 * in all states, wherever only registers that matter are compared.
 */
public final class RowImprover {
    public static final int NONE = -1;

    private static final int ADD = 0;
    private static final int SUB = 1;
    private static final int AND = 2;
    private static final int OR = 3;
    private static final int XOR = 4;
    private static final int LESS = 5;
    private static final int ADDN = 6;
    private static final int ANDN = 7;
    private static final int XORN = 8;
    private static final int SHIFT = 9;
    private static final int LOAD = 10;
    private static final int STORE = 11;
    private static final int SAME = 12;
    private static final int OTHER = 13;
    private static final int JUMP = 14;
    private static final int HALT = 15;

    private static final int REGISTERS = 4;
    private static final int CELLS = 8;
    private static final int GREATEST_VALUE = 15;
    private static final int MOST_INSTRUCTIONS = 24;
    private static final int MOST_STEPS = 500;
    private static final int LONGEST_ROW = 3;

    /** Sets of registers are sums of 2^r; register 0 never changes, so it is never live. */
    private static final int EVERY_REGISTER = 15;
    private static final int LIVE_AT_END = 14;

    /** Answers of the search for a replacement; no packed instruction is negative. */
    private static final int NOTHING = -1;
    private static final int NOT_FOUND = -2;

    private final Program program;
    private final Machine machine;
    private final Liveness liveness;
    private final Prover prover;
    private final Improver improver;

    public RowImprover() {
        program = new Program();
        machine = new Machine();
        liveness = new Liveness();
        prover = new Prover();
        improver = new Improver();
    }

    public int add(int operation, int d, int s, int t)
            throws IllegalArgumentException, IllegalStateException {
        if (!Code.isLegal(operation, d, s, t)) {
            throw new IllegalArgumentException("no such instruction");
        }
        if (program.isFull()) {
            throw new IllegalStateException("24 instructions are there");
        }
        return program.append(Code.pack(operation, d, s, t));
    }

    public void replace(int place, int operation, int d, int s, int t)
            throws IllegalArgumentException, IndexOutOfBoundsException {
        if (!Code.isLegal(operation, d, s, t)) {
            throw new IllegalArgumentException("no such instruction");
        }
        if (!program.has(place)) {
            throw new IndexOutOfBoundsException("no instruction is there");
        }
        program.put(place, Code.pack(operation, d, s, t));
    }

    public int clear() {
        return program.empty();
    }

    public int size() {
        return program.length();
    }

    public int instruction(int place, int what)
            throws IllegalArgumentException, IndexOutOfBoundsException {
        if (what < 0 || what > 3) {
            throw new IllegalArgumentException("what is not 0 .. 3");
        }
        if (!program.has(place)) {
            throw new IndexOutOfBoundsException("no instruction is there");
        }
        return Code.part(program.codeAt(place), what);
    }

    public void start(int number, int v) throws IllegalArgumentException {
        if (number < 1 || number >= REGISTERS + CELLS || v < 0 || v > GREATEST_VALUE) {
            throw new IllegalArgumentException("no such register, cell or value");
        }
        machine.setStart(number, v);
    }

    public int run(int limit) throws IllegalArgumentException {
        if (limit < 0 || limit > MOST_STEPS) {
            throw new IllegalArgumentException("limit is not 0 .. 500");
        }
        return machine.perform(program, limit);
    }

    public int result(int what) {
        return machine.outcome(what);
    }

    public int live(int place) throws IndexOutOfBoundsException {
        if (place < 0 || place > program.length()) {
            throw new IndexOutOfBoundsException("place is not 0 .. size");
        }
        liveness.findFor(program);
        return liveness.before(place);
    }

    public int block(int place) throws IndexOutOfBoundsException {
        if (!program.has(place)) {
            throw new IndexOutOfBoundsException("no instruction is there");
        }
        return program.beginOfBlock(place);
    }

    public boolean same(int p, int n, int q, int m, int registers)
            throws IllegalArgumentException, IndexOutOfBoundsException,
                    UnsupportedOperationException {
        if (n < 0 || n > LONGEST_ROW || m < 0 || m > LONGEST_ROW) {
            throw new IllegalArgumentException("n or m is not 0 .. 3");
        }
        if (registers < 0 || registers > EVERY_REGISTER) {
            throw new IllegalArgumentException("registers is not 0 .. 15");
        }
        if (!program.hasAll(p, n) || !program.hasAll(q, m)) {
            throw new IndexOutOfBoundsException("they are not all there");
        }
        if (!program.allPlain(p, n) || !program.allPlain(q, m)) {
            throw new UnsupportedOperationException("one of them is not plain");
        }
        return prover.agreeInProgram(program, p, n, q, m, registers);
    }

    public int improve() {
        return improver.improveProgram(program);
    }

    public int count(int what) {
        return improver.counted(what);
    }

    /**
     * An instruction is held as one number, as in a real machine: a program is then a plain row of
     * numbers, and no object is made when instructions are tried, moved or replaced.
     */
    private static final class Code {
        private static final int T_MASK = 31;
        private static final int S_SHIFT = 5;
        private static final int D_SHIFT = 7;
        private static final int OPERATION_SHIFT = 9;
        private static final int REGISTER_MASK = 3;

        static boolean isLegal(int operation, int d, int s, int t) {
            if (operation < ADD || operation > HALT) {
                return false;
            }
            int mostRegister = operation >= JUMP ? 0 : REGISTERS - 1;
            return d >= 0 && d <= mostRegister
                    && s >= 0 && s <= mostRegister
                    && t >= 0 && t <= greatestT(operation);
        }

        private static int greatestT(int operation) {
            if (operation <= LESS) {
                return REGISTERS - 1;
            }
            if (operation <= SHIFT) {
                return GREATEST_VALUE;
            }
            if (operation <= STORE) {
                return CELLS - 1;
            }
            return operation == HALT ? 0 : MOST_INSTRUCTIONS;
        }

        static int pack(int operation, int d, int s, int t) {
            return operation << OPERATION_SHIFT | d << D_SHIFT | s << S_SHIFT | t;
        }

        static int part(int code, int what) {
            switch (what) {
                case 0:
                    return operation(code);
                case 1:
                    return d(code);
                case 2:
                    return s(code);
                default:
                    return t(code);
            }
        }

        static int operation(int code) {
            return code >> OPERATION_SHIFT;
        }

        static int d(int code) {
            return code >> D_SHIFT & REGISTER_MASK;
        }

        static int s(int code) {
            return code >> S_SHIFT & REGISTER_MASK;
        }

        static int t(int code) {
            return code & T_MASK;
        }

        static boolean isPlain(int code) {
            return operation(code) <= SHIFT;
        }

        static boolean hasNumber(int code) {
            return operation(code) >= ADDN && operation(code) <= SHIFT;
        }

        static boolean hasTarget(int code) {
            return operation(code) >= SAME && operation(code) <= JUMP;
        }

        static boolean endsBlock(int code) {
            return operation(code) >= SAME;
        }

        /** The target is the only part that changes while an instruction keeps its sense. */
        static int withTarget(int code, int target) {
            return code & ~T_MASK | target;
        }

        static int readBy(int code) {
            int operation = operation(code);
            if (operation <= LESS) {
                return 1 << s(code) | 1 << t(code);
            }
            if (operation <= LOAD) {
                return 1 << s(code);
            }
            if (operation <= OTHER) {
                return 1 << d(code) | 1 << s(code);
            }
            return operation == HALT ? EVERY_REGISTER : 0;
        }

        static int writtenBy(int code) {
            return operation(code) <= LOAD ? 1 << d(code) : 0;
        }

        static int registersAfter(int code, int registers) {
            int operation = operation(code);
            int a = Registers.value(registers, s(code));
            int b = operation <= LESS ? Registers.value(registers, t(code)) : t(code);
            int value;
            switch (operation) {
                case ADD:
                case ADDN:
                    value = a + b;
                    break;
                case SUB:
                    value = a - b;
                    break;
                case AND:
                case ANDN:
                    value = a & b;
                    break;
                case OR:
                    value = a | b;
                    break;
                case XOR:
                case XORN:
                    value = a ^ b;
                    break;
                case LESS:
                    value = a < b ? 1 : 0;
                    break;
                case SHIFT:
                    value = a << b;
                    break;
                default:
                    return registers;
            }
            return Registers.with(registers, d(code), value);
        }
    }

    /** All four registers in one number, four bits each, so that states compare at one stroke. */
    private static final class Registers {
        private static final int BITS = 4;
        private static final int VALUE_MASK = 15;

        static int value(int registers, int number) {
            return registers >> number * BITS & VALUE_MASK;
        }

        static int with(int registers, int number, int value) {
            if (number == 0) {
                return registers;
            }
            int shift = number * BITS;
            return registers & ~(VALUE_MASK << shift) | (value & VALUE_MASK) << shift;
        }

        /** The bits that the registers of a set fill. */
        static int maskOf(int set) {
            int mask = 0;
            for (int number = 0; number < REGISTERS; number++) {
                if ((set >> number & 1) == 1) {
                    mask |= VALUE_MASK << number * BITS;
                }
            }
            return mask;
        }
    }

    /** The instructions at their places, and where the blocks begin. */
    private static final class Program {
        private final int[] codes = new int[MOST_INSTRUCTIONS];
        private int length;

        int length() {
            return length;
        }

        boolean isFull() {
            return length >= MOST_INSTRUCTIONS;
        }

        boolean has(int place) {
            return place >= 0 && place < length;
        }

        /** None at all are always there, wherever they are said to be. */
        boolean hasAll(int place, int n) {
            return n == 0 || place >= 0 && place <= length - n;
        }

        int codeAt(int place) {
            return codes[place];
        }

        int append(int code) {
            codes[length] = code;
            length++;
            return length - 1;
        }

        void put(int place, int code) {
            codes[place] = code;
        }

        int empty() {
            int had = length;
            length = 0;
            return had;
        }

        boolean allPlain(int place, int n) {
            for (int i = 0; i < n; i++) {
                if (!Code.isPlain(codes[place + i])) {
                    return false;
                }
            }
            return true;
        }

        boolean hasRow(int place, int n) {
            if (!hasAll(place, n) || !allPlain(place, n)) {
                return false;
            }
            for (int i = 1; i < n; i++) {
                if (beginsBlock(place + i)) {
                    return false;
                }
            }
            return true;
        }

        int beginOfBlock(int place) {
            int begin = place;
            while (begin > 0 && !beginsBlock(begin)) {
                begin--;
            }
            return begin;
        }

        private boolean beginsBlock(int place) {
            if (place == 0 || Code.endsBlock(codes[place - 1])) {
                return true;
            }
            for (int i = 0; i < length; i++) {
                if (Code.hasTarget(codes[i]) && Code.t(codes[i]) == place) {
                    return true;
                }
            }
            return false;
        }

        /** Puts nothing or one instruction in place of a row: how many came in its place. */
        int putForRow(int place, int n, int replacement) {
            int came = 0;
            if (replacement != NOTHING) {
                codes[place] = replacement;
                came = 1;
            }
            int gone = n - came;
            for (int i = place + came; i < length - gone; i++) {
                codes[i] = codes[i + gone];
            }
            length -= gone;
            moveTargetsAbove(place, gone);
            return came;
        }

        private void moveTargetsAbove(int place, int gone) {
            for (int i = 0; i < length; i++) {
                int target = Code.t(codes[i]);
                if (Code.hasTarget(codes[i]) && target > place) {
                    codes[i] = Code.withTarget(codes[i], target - gone);
                }
            }
        }
    }

    /** Runs programs, and keeps the start values and what the latest run left. */
    private static final class Machine {
        private final int[] startCells = new int[CELLS];
        private final int[] cells = new int[CELLS];
        private int startRegisters;
        private int registers;
        private int place;
        private boolean ended;

        void setStart(int number, int v) {
            if (number < REGISTERS) {
                startRegisters = Registers.with(startRegisters, number, v);
            } else {
                startCells[number - REGISTERS] = v;
            }
        }

        int perform(Program program, int limit) {
            registers = startRegisters;
            System.arraycopy(startCells, 0, cells, 0, CELLS);
            place = 0;
            ended = !program.has(place);
            int done = 0;
            while (done < limit && !ended) {
                int code = program.codeAt(place);
                step(code);
                ended = Code.operation(code) == HALT || !program.has(place);
                done++;
            }
            return done;
        }

        private void step(int code) {
            place = jumps(code) ? Code.t(code) : place + 1;
            int cell = (Registers.value(registers, Code.s(code)) + Code.t(code)) % CELLS;
            if (Code.operation(code) == LOAD) {
                registers = Registers.with(registers, Code.d(code), cells[cell]);
            } else if (Code.operation(code) == STORE) {
                cells[cell] = Registers.value(registers, Code.d(code));
            } else {
                registers = Code.registersAfter(code, registers);
            }
        }

        private boolean jumps(int code) {
            int d = Registers.value(registers, Code.d(code));
            int s = Registers.value(registers, Code.s(code));
            switch (Code.operation(code)) {
                case SAME:
                    return d == s;
                case OTHER:
                    return d != s;
                case JUMP:
                    return true;
                default:
                    return false;
            }
        }

        int outcome(int what) {
            if (what >= 0 && what < REGISTERS) {
                return Registers.value(registers, what);
            }
            if (what >= REGISTERS && what < REGISTERS + CELLS) {
                return cells[what - REGISTERS];
            }
            switch (what) {
                case 12:
                    return ended ? 1 : 0;
                case 13:
                    return place;
                default:
                    return NONE;
            }
        }
    }

    /** Finds which registers are live before each place, the end's included. */
    private static final class Liveness {
        /** Every pass but the last finds at least one register live at one more place. */
        private static final int MOST_PASSES = (REGISTERS - 1) * MOST_INSTRUCTIONS + 1;

        private final int[] found = new int[MOST_INSTRUCTIONS + 1];

        int before(int place) {
            return found[place];
        }

        void findFor(Program program) {
            Arrays.fill(found, 0);
            found[program.length()] = LIVE_AT_END;
            boolean more = true;
            for (int pass = 0; more && pass < MOST_PASSES; pass++) {
                more = findMore(program);
            }
        }

        private boolean findMore(Program program) {
            boolean more = false;
            for (int place = program.length() - 1; place >= 0; place--) {
                int code = program.codeAt(place);
                int unwritten = behind(program, place) & ~Code.writtenBy(code);
                int live = (Code.readBy(code) | unwritten) & LIVE_AT_END;
                if (live != found[place]) {
                    found[place] = live;
                    more = true;
                }
            }
            return more;
        }

        private int behind(Program program, int place) {
            int code = program.codeAt(place);
            int atTarget = found[Math.min(Code.t(code), program.length())];
            switch (Code.operation(code)) {
                case JUMP:
                    return atTarget;
                case SAME:
                case OTHER:
                    return found[place + 1] | atTarget;
                default:
                    return found[place + 1];
            }
        }
    }

    /** At most three plain instructions, taken out of a program or tried in its stead. */
    private static final class Row {
        private final int[] codes = new int[LONGEST_ROW];
        private int length;

        void takeFrom(Program program, int place, int n) {
            for (int i = 0; i < n; i++) {
                codes[i] = program.codeAt(place + i);
            }
            length = n;
        }

        void takeNothing() {
            length = 0;
        }

        void takeOne(int code) {
            codes[0] = code;
            length = 1;
        }

        int registersAfter(int registers) {
            int state = registers;
            for (int i = 0; i < length; i++) {
                state = Code.registersAfter(codes[i], state);
            }
            return state;
        }

        /** The numbers 0 .. 15 among the instructions, as a sum of 2^number. */
        int numbers() {
            int set = 0;
            for (int i = 0; i < length; i++) {
                if (Code.hasNumber(codes[i])) {
                    set |= 1 << Code.t(codes[i]);
                }
            }
            return set;
        }
    }

    /** Proves that two rows do the same by trying every state of registers 1 .. 3. */
    private static final class Prover {
        private static final int STATES = 4096;
        /** Odd, so that every state comes up once; large, so that all registers soon differ. */
        private static final int STRIDE = 1237;
        private static final int FIRST_STATE_BIT = 4;

        private final Row one = new Row();
        private final Row other = new Row();
        /** The next pair of rows most often differs where the last one did: it is tried first. */
        private int latestDifference;

        boolean agreeInProgram(Program program, int p, int n, int q, int m, int registers) {
            one.takeFrom(program, p, n);
            other.takeFrom(program, q, m);
            return agree(one, other, Registers.maskOf(registers));
        }

        /** Takes the mask of the registers, not their set: it stays the same for many rows. */
        boolean agree(Row first, Row second, int compared) {
            for (int i = 0; i < STATES; i++) {
                int number = (latestDifference + i * STRIDE) % STATES;
                int state = number << FIRST_STATE_BIT;
                int differing = first.registersAfter(state) ^ second.registersAfter(state);
                if ((differing & compared) != 0) {
                    latestDifference = number;
                    return false;
                }
            }
            return true;
        }
    }

    /** Goes through a program and replaces rows, counting what it does. */
    private static final class Improver {
        /** The numbers 0, 1 and 15 are tried in every row. */
        private static final int NUMBERS_ALWAYS = 1 << 0 | 1 << 1 | 1 << 15;

        private final Liveness liveness = new Liveness();
        private final Prover prover = new Prover();
        private final Row row = new Row();
        private final Row candidate = new Row();
        private int replaced;
        private int byNothing;
        private int lookedAt;

        int counted(int what) {
            switch (what) {
                case 0:
                    return replaced;
                case 1:
                    return byNothing;
                case 2:
                    return lookedAt;
                default:
                    return NONE;
            }
        }

        int improveProgram(Program program) {
            int lengthBefore = program.length();
            liveness.findFor(program);
            int place = 0;
            // Every step goes on behind at least one of the instructions that were there.
            for (int step = 0; step < MOST_INSTRUCTIONS && program.has(place); step++) {
                place = improveAt(program, place);
            }
            return lengthBefore - program.length();
        }

        /** Answers the place where one goes on. */
        private int improveAt(Program program, int place) {
            for (int n = LONGEST_ROW; n >= 1; n--) {
                if (program.hasRow(place, n)) {
                    row.takeFrom(program, place, n);
                    int found = NOTHING;
                    int compared = Registers.maskOf(liveness.before(place + n));
                    if (!nothingDoes(compared)) {
                        found = n > 1 ? firstInstruction(compared) : NOT_FOUND;
                    }
                    if (found != NOT_FOUND) {
                        return place + putForRow(program, place, n, found);
                    }
                }
            }
            return place + 1;
        }

        private int putForRow(Program program, int place, int n, int replacement) {
            replaced++;
            if (replacement == NOTHING) {
                byNothing++;
            }
            int came = program.putForRow(place, n, replacement);
            liveness.findFor(program);
            return came;
        }

        private boolean nothingDoes(int compared) {
            candidate.takeNothing();
            lookedAt++;
            return prover.agree(row, candidate, compared);
        }

        private int firstInstruction(int compared) {
            int numbers = NUMBERS_ALWAYS | row.numbers();
            for (int operation = ADD; operation <= SHIFT; operation++) {
                int choices = operation <= LESS ? EVERY_REGISTER : numbers;
                for (int d = 1; d < REGISTERS; d++) {
                    for (int s = 0; s < REGISTERS; s++) {
                        for (int t = 0; t <= GREATEST_VALUE; t++) {
                            if ((choices >> t & 1) == 1) {
                                int code = Code.pack(operation, d, s, t);
                                candidate.takeOne(code);
                                lookedAt++;
                                if (prover.agree(row, candidate, compared)) {
                                    return code;
                                }
                            }
                        }
                    }
                }
            }
            return NOT_FOUND;
        }
    }
}
