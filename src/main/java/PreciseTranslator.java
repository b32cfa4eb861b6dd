/**
 * A small computer with eight registers, four flags and a paged memory, whose program is given
 * instruction by instruction and then run in slices.
 */
public final class PreciseTranslator {
    public static final int BUDGET = 0;
    public static final int HALTED = 1;
    public static final int NO_CODE = 2;
    public static final int OUTSIDE = 3;
    public static final int NO_READ = 4;
    public static final int NO_WRITE = 5;
    public static final int DIVIDE = 6;
    public static final int BAD_OP = -1;
    public static final int NO_ROOM = -2;
    public static final int EMPTY = -3;
    public static final int BAD_INDEX = -4;
    public static final int BAD_RIGHTS = -5;

    private static final int OP_SET = 0;
    private static final int OP_ADD = 1;
    private static final int OP_SUB = 2;
    private static final int OP_AND = 3;
    private static final int OP_XOR = 4;
    private static final int OP_ADC = 5;
    private static final int OP_MUL = 6;
    private static final int OP_DIV = 7;
    private static final int OP_SHL = 8;
    private static final int OP_LOAD = 9;
    private static final int OP_STORE = 10;
    private static final int OP_JUMP = 11;
    private static final int OP_HALT = 12;

    private static final int RIGHTS_NONE = 0;
    private static final int RIGHTS_WRITE = 2;

    private static final int REGISTERS = 8;
    private static final int REGISTER_MASK = 7;
    private static final int CONDITION_MASK = 7;
    private static final int SHIFT_MASK = 31;
    private static final int PAGE_CELLS = 8;
    private static final int MOST_PAGES = 4;
    private static final int MOST_CELLS = 32;
    private static final int MOST_INSTRUCTIONS = 40;
    private static final int MOST_STEPS = 300;
    private static final long UNSIGNED = 0xFFFFFFFFL;

    // Beside the reasons to stop, which are all 0 or more, so that it is none of them.
    private static final int STEP_DONE = -1;

    private final int[] registers = new int[REGISTERS];
    private final int[] cells = new int[MOST_CELLS];
    private final int[] pageRights = new int[MOST_PAGES];
    private final int[] codeOp = new int[MOST_INSTRUCTIONS];
    private final int[] codeA = new int[MOST_INSTRUCTIONS];
    private final int[] codeB = new int[MOST_INSTRUCTIONS];
    private final int[] codeC = new int[MOST_INSTRUCTIONS];
    private final int pageCount;
    private final int cellCount;
    private int codeCount;
    private int zero;
    private int negative;
    private int carry;
    private int overflow;
    private int counter;
    private int stepsDone;
    private int faultAddress;

    public PreciseTranslator(int pages, int rights) {
        pageCount = clamp(pages, 1, MOST_PAGES);
        cellCount = pageCount * PAGE_CELLS;
        int startRights = clamp(rights, RIGHTS_NONE, RIGHTS_WRITE);
        for (int page = 0; page < MOST_PAGES; page++) {
            pageRights[page] = startRights;
        }
    }

    public int emit(int op, int a, int b, int c) {
        if (op < OP_SET || op > OP_HALT) {
            return BAD_OP;
        }
        if (codeCount >= MOST_INSTRUCTIONS) {
            return NO_ROOM;
        }
        int number = codeCount;
        codeOp[number] = op;
        codeA[number] = a;
        codeB[number] = b;
        codeC[number] = c;
        codeCount = number + 1;
        return number;
    }

    public int drop() {
        if (codeCount <= 0) {
            return EMPTY;
        }
        codeCount = codeCount - 1;
        return codeCount;
    }

    public int setReg(int index, int value) {
        if (!isRegister(index)) {
            return BAD_INDEX;
        }
        registers[index] = value;
        return 0;
    }

    public void setFlags(int bits) {
        zero = bits & 1;
        negative = (bits >> 1) & 1;
        carry = (bits >> 2) & 1;
        overflow = (bits >> 3) & 1;
    }

    public int poke(int address, int value) {
        if (!isAddress(address)) {
            return BAD_INDEX;
        }
        cells[address] = value;
        return 0;
    }

    public int setPage(int page, int rights) {
        if (page < 0 || page >= pageCount) {
            return BAD_INDEX;
        }
        if (rights < RIGHTS_NONE || rights > RIGHTS_WRITE) {
            return BAD_RIGHTS;
        }
        pageRights[page] = rights;
        return 0;
    }

    public void jump(int target) {
        counter = target;
    }

    public int run(int budget) {
        int allowed = clamp(budget, 0, MOST_STEPS);
        stepsDone = 0;
        faultAddress = 0;
        for (int done = 0; done < allowed; done++) {
            int outcome = step();
            if (outcome != STEP_DONE) {
                return outcome;
            }
            stepsDone = done + 1;
        }
        return BUDGET;
    }

    public void reset() {
        for (int index = 0; index < REGISTERS; index++) {
            registers[index] = 0;
        }
        for (int address = 0; address < MOST_CELLS; address++) {
            cells[address] = 0;
        }
        zero = 0;
        negative = 0;
        carry = 0;
        overflow = 0;
        counter = 0;
        stepsDone = 0;
        faultAddress = 0;
    }

    public int reg(int index) {
        return isRegister(index) ? registers[index] : 0;
    }

    public int flags() {
        return zero + 2 * negative + 4 * carry + 8 * overflow;
    }

    public int peek(int address) {
        return isAddress(address) ? cells[address] : 0;
    }

    public int pc() {
        return counter;
    }

    public int steps() {
        return stepsDone;
    }

    public int where() {
        return faultAddress;
    }

    private static int clamp(int value, int least, int most) {
        if (value < least) {
            return least;
        }
        return value > most ? most : value;
    }

    private static boolean isRegister(int index) {
        return index >= 0 && index < REGISTERS;
    }

    private boolean isAddress(int address) {
        return address >= 0 && address < cellCount;
    }

    private int step() {
        if (counter < 0 || counter >= codeCount) {
            return NO_CODE;
        }
        int op = codeOp[counter];
        if (op == OP_HALT) {
            return HALTED;
        }
        int a = codeA[counter];
        int b = codeB[counter];
        int c = codeC[counter];
        if (op == OP_JUMP) {
            boolean taken = holds(a & CONDITION_MASK);
            counter = taken ? c : counter + 1;
            return STEP_DONE;
        }
        int outcome = carryOut(op, a & REGISTER_MASK, b & REGISTER_MASK, c);
        if (outcome == STEP_DONE) {
            counter = counter + 1;
        }
        return outcome;
    }

    private int carryOut(int op, int a, int b, int c) {
        if (op == OP_LOAD) {
            return load(a, registers[b] + c);
        }
        if (op == OP_STORE) {
            return store(a, registers[b] + c);
        }
        int left = registers[b];
        int right = registers[c & REGISTER_MASK];
        if (op == OP_DIV) {
            return divide(a, left, right);
        }
        switch (op) {
            case OP_SET:
                registers[a] = c;
                break;
            case OP_ADD:
                add(a, left, right, 0);
                break;
            case OP_SUB:
                subtract(a, left, right);
                break;
            case OP_AND:
                putResult(a, left & right, false, false);
                break;
            case OP_XOR:
                putResult(a, left ^ right, false, false);
                break;
            case OP_ADC:
                add(a, left, right, carry);
                break;
            case OP_MUL:
                registers[a] = left * right;
                break;
            case OP_SHL:
                registers[a] = left << (c & SHIFT_MASK);
                break;
            default:
                // emit lets no other op in.
                break;
        }
        return STEP_DONE;
    }

    private boolean holds(int condition) {
        switch (condition) {
            case 1:
                return zero == 1;
            case 2:
                return zero == 0;
            case 3:
                return negative == 1;
            case 4:
                return negative == 0;
            case 5:
                return carry == 1;
            case 6:
                return overflow == 1;
            case 7:
                return negative != overflow;
            default:
                return true;
        }
    }

    private void add(int target, int left, int right, int carryIn) {
        long unsignedSum = (left & UNSIGNED) + (right & UNSIGNED) + carryIn;
        long signedSum = (long) left + right + carryIn;
        int result = (int) signedSum;
        putResult(target, result, unsignedSum > UNSIGNED, signedSum != result);
    }

    private void subtract(int target, int left, int right) {
        long signedDifference = (long) left - right;
        int result = (int) signedDifference;
        boolean borrows = (left & UNSIGNED) < (right & UNSIGNED);
        putResult(target, result, borrows, signedDifference != result);
    }

    private void putResult(int target, int result, boolean carries, boolean overflows) {
        registers[target] = result;
        zero = result == 0 ? 1 : 0;
        negative = result < 0 ? 1 : 0;
        carry = carries ? 1 : 0;
        overflow = overflows ? 1 : 0;
    }

    private int divide(int target, int dividend, int divisor) {
        if (divisor == 0) {
            return DIVIDE;
        }
        registers[target] = dividend / divisor;
        return STEP_DONE;
    }

    private int load(int target, int address) {
        if (!isAddress(address)) {
            faultAddress = address;
            return OUTSIDE;
        }
        if (pageRights[address / PAGE_CELLS] == RIGHTS_NONE) {
            faultAddress = address;
            return NO_READ;
        }
        registers[target] = cells[address];
        return STEP_DONE;
    }

    private int store(int source, int address) {
        if (!isAddress(address)) {
            faultAddress = address;
            return OUTSIDE;
        }
        if (pageRights[address / PAGE_CELLS] != RIGHTS_WRITE) {
            faultAddress = address;
            return NO_WRITE;
        }
        cells[address] = registers[source];
        return STEP_DONE;
    }
}
