/** The instructions as the Terms say them: results, flags, conditions, faults (promises 9, 12). */
public final class InstructionTest {
    private static final int MIN = Checks.MIN;
    private static final int MAX = Checks.MAX;
    private static final int Z = Checks.Z;
    private static final int N = Checks.N;
    private static final int C = Checks.C;
    private static final int V = Checks.V;

    public static void main(String[] args) {
        setKeepsFlags();
        addition();
        subtraction();
        logic();
        additionWithCarry();
        carryAndOverflowAtTheEdge();
        multiplication();
        division();
        shift();
        loadAndStore();
        addressesWrap();
        outside(Checks.LOAD);
        outside(Checks.STORE);
        firstAndLastAddress(Checks.LOAD);
        firstAndLastAddress(Checks.STORE);
        rights();
        jumpConditions();
        jumpTargets();
        jumpToItself();
        operandsAreMasked();
        operandsAreReadFirst();
        logicReadsFirst();
        Checks.finish();
    }

    /** Carries out one instruction on registers 2 and 3 into 1, with the flags as given. */
    private static PreciseTranslator did(int op, int left, int right, int flags) {
        PreciseTranslator x = new PreciseTranslator(1, 2);
        x.setReg(2, left);
        x.setReg(3, right);
        x.setFlags(flags);
        x.emit(op, 1, 2, 3);
        Checks.due("one step of op " + op, x.run(1), PreciseTranslator.BUDGET);
        Checks.due("left operand stays", x.reg(2), left);
        Checks.due("right operand stays", x.reg(3), right);
        Checks.due("pc goes on", x.pc(), 1);
        return x;
    }

    private static void gives(int op, int left, int right, int flags, int result, int flagsDue) {
        PreciseTranslator x = did(op, left, right, flags);
        String what = "op " + op + " of " + left + ", " + right + " with flags " + flags;
        Checks.due(what, x.reg(1), result);
        Checks.due(what + " flags", x.flags(), flagsDue);
    }

    /** For an op that sets all flags and looks at none. */
    private static void sets(int op, int left, int right, int result, int flagsDue) {
        for (int flags = 0; flags < 16; flags++) {
            gives(op, left, right, flags, result, flagsDue);
        }
    }

    private static void leaves(int op, int left, int right, int result) {
        for (int flags = 0; flags < 16; flags++) {
            gives(op, left, right, flags, result, flags);
        }
    }

    private static void setKeepsFlags() {
        int[] values = {0, 1, -1, MIN, MAX};
        for (int value : values) {
            for (int flags = 0; flags < 16; flags++) {
                PreciseTranslator x = new PreciseTranslator(1, 2);
                x.setReg(4, 77);
                x.setFlags(flags);
                x.emit(Checks.SET, 4, 5, value);
                x.run(1);
                Checks.due("SET " + value, x.reg(4), value);
                Checks.due("SET leaves flags", x.flags(), flags);
            }
        }
    }

    private static void addition() {
        sets(Checks.ADD, 5, 7, 12, 0);
        sets(Checks.ADD, 0, 0, 0, Z);
        sets(Checks.ADD, -1, 1, 0, Z + C);
        sets(Checks.ADD, -1, -1, -2, N + C);
        sets(Checks.ADD, MAX, 1, MIN, N + V);
        sets(Checks.ADD, 1, MAX, MIN, N + V);
        sets(Checks.ADD, MAX, MAX, -2, N + V);
        sets(Checks.ADD, MIN, MIN, 0, Z + C + V);
        sets(Checks.ADD, MIN, -1, MAX, C + V);
        sets(Checks.ADD, MIN, MAX, -1, N);
        sets(Checks.ADD, -5, 3, -2, N);
    }

    private static void subtraction() {
        sets(Checks.SUB, 7, 5, 2, 0);
        sets(Checks.SUB, 5, 7, -2, N + C);
        sets(Checks.SUB, 5, 5, 0, Z);
        sets(Checks.SUB, MIN, MIN, 0, Z);
        sets(Checks.SUB, MIN, 1, MAX, V);
        sets(Checks.SUB, MAX, -1, MIN, N + C + V);
        sets(Checks.SUB, 0, MIN, MIN, N + C + V);
        sets(Checks.SUB, -1, MIN, MAX, 0);
        sets(Checks.SUB, 0, -1, 1, C);
        sets(Checks.SUB, -1, 0, -1, N);
        sets(Checks.SUB, -1, MAX, MIN, N);
        sets(Checks.SUB, -2, MAX, MAX, V);
    }

    private static void logic() {
        sets(Checks.AND, 12, 10, 8, 0);
        sets(Checks.AND, 1, 2, 0, Z);
        sets(Checks.AND, -1, MIN, MIN, N);
        sets(Checks.XOR, 12, 10, 6, 0);
        sets(Checks.XOR, 9, 9, 0, Z);
        sets(Checks.XOR, -1, MAX, MIN, N);
    }

    private static void additionWithCarry() {
        for (int others = 0; others < 16; others++) {
            int without = others & ~C;
            int with = others | C;
            gives(Checks.ADC, 5, 7, without, 12, 0);
            gives(Checks.ADC, 5, 7, with, 13, 0);
            gives(Checks.ADC, 0, 0, without, 0, Z);
            gives(Checks.ADC, 0, 0, with, 1, 0);
            gives(Checks.ADC, -1, 0, without, -1, N);
            gives(Checks.ADC, -1, 0, with, 0, Z + C);
            gives(Checks.ADC, 0, -1, with, 0, Z + C);
            gives(Checks.ADC, -1, -1, with, -1, N + C);
            gives(Checks.ADC, MAX, 0, without, MAX, 0);
            gives(Checks.ADC, MAX, 0, with, MIN, N + V);
            gives(Checks.ADC, MAX, MAX, with, -1, N + V);
            gives(Checks.ADC, MIN, -1, without, MAX, C + V);
            // The sum of the two alone would be no int; with the carry it is one again.
            gives(Checks.ADC, MIN, -1, with, MIN, N + C);
            gives(Checks.ADC, MIN, MAX, with, 0, Z + C);
            gives(Checks.ADC, MIN, MIN, with, 1, C + V);
        }
    }

    /** Just inside and just outside of 2^32 - 1 and of the least and the greatest int. */
    private static void carryAndOverflowAtTheEdge() {
        sets(Checks.ADD, 2, -3, -1, N);
        sets(Checks.ADD, 3, -3, 0, Z + C);
        sets(Checks.ADD, MAX - 1, 1, MAX, 0);
        sets(Checks.ADD, MAX, 0, MAX, 0);
        sets(Checks.ADD, MIN, 0, MIN, N);
        sets(Checks.ADD, MIN + 1, -1, MIN, N + C);
        sets(Checks.SUB, MAX, 0, MAX, 0);
        sets(Checks.SUB, MIN, 0, MIN, N);
        sets(Checks.SUB, MIN + 1, 1, MIN, N);
        sets(Checks.SUB, 0, MAX, MIN + 1, N + C);
        sets(Checks.SUB, -2, -1, -1, N + C);
        sets(Checks.SUB, MAX, MIN, -1, N + C + V);
        sets(Checks.SUB, MIN, MAX, 1, V);
        gives(Checks.ADC, 2, -4, C, -1, N);
        gives(Checks.ADC, 2, -3, 0, -1, N);
        gives(Checks.ADC, 2, -3, C, 0, Z + C);
        gives(Checks.ADC, MAX - 1, 0, C, MAX, 0);
        gives(Checks.ADC, MAX - 1, 1, 0, MAX, 0);
        gives(Checks.ADC, MAX - 1, 1, C, MIN, N + V);
        gives(Checks.ADC, MIN, 0, 0, MIN, N);
        gives(Checks.ADC, MIN, -2, C, MAX, C + V);
    }

    private static void multiplication() {
        leaves(Checks.MUL, 6, 7, 42);
        leaves(Checks.MUL, 0, -5, 0);
        leaves(Checks.MUL, -3, 5, -15);
        leaves(Checks.MUL, 65536, 65536, 0);
        leaves(Checks.MUL, MIN, -1, MIN);
        leaves(Checks.MUL, MAX, MAX, 1);
    }

    private static void division() {
        leaves(Checks.DIV, 7, 2, 3);
        leaves(Checks.DIV, -7, 2, -3);
        leaves(Checks.DIV, 7, -2, -3);
        leaves(Checks.DIV, -7, -2, 3);
        leaves(Checks.DIV, 0, 5, 0);
        leaves(Checks.DIV, 1, 2, 0);
        leaves(Checks.DIV, MIN, -1, MIN);
        leaves(Checks.DIV, MIN, 1, MIN);
        leaves(Checks.DIV, MIN, MIN, 1);
        leaves(Checks.DIV, MAX, MIN, 0);
        leaves(Checks.DIV, -1, 2, 0);
        leaves(Checks.DIV, 1, -2, 0);
        leaves(Checks.DIV, MIN, MAX, -1);
        leaves(Checks.DIV, MIN + 1, -1, MAX);
        divisionByZero();
    }

    private static void divisionByZero() {
        int[] dividends = {0, 1, -1, MIN, MAX};
        for (int dividend : dividends) {
            PreciseTranslator x = new PreciseTranslator(1, 2);
            x.setReg(1, 55);
            x.setReg(2, dividend);
            x.setFlags(10);
            x.emit(Checks.DIV, 1, 2, 3);
            String before = Checks.seen(x);
            Checks.due("DIV by 0", x.run(5), PreciseTranslator.DIVIDE);
            Checks.same("DIV by 0", Checks.seen(x), before);
        }
    }

    private static void shift() {
        shifts(1, 0, 1);
        shifts(1, 1, 2);
        shifts(3, 30, 0xC0000000);
        shifts(1, 31, MIN);
        shifts(5, 32, 5);
        shifts(5, 33, 10);
        shifts(1, -1, MIN);
        shifts(-1, 4, -16);
        shifts(7, MIN, 7);
        shifts(1, MAX, MIN);
    }

    private static void shifts(int value, int by, int result) {
        for (int flags = 0; flags < 16; flags++) {
            PreciseTranslator x = new PreciseTranslator(1, 2);
            // A count taken from a register would then be seen.
            for (int index = 0; index < 8; index++) {
                x.setReg(index, 13);
            }
            x.setReg(2, value);
            x.setFlags(flags);
            x.emit(Checks.SHL, 1, 2, by);
            x.run(1);
            Checks.due("SHL " + value + " by " + by, x.reg(1), result);
            Checks.due("SHL leaves flags", x.flags(), flags);
        }
    }

    private static void loadAndStore() {
        for (int flags = 0; flags < 16; flags++) {
            PreciseTranslator x = new PreciseTranslator(4, 2);
            x.poke(31, -8);
            x.setReg(1, 9);
            x.setReg(2, MAX);
            x.setFlags(flags);
            x.emit(Checks.LOAD, 3, 2, MIN + 32);
            x.emit(Checks.STORE, 1, 2, MIN + 1);
            x.emit(Checks.STORE, 3, 3, 15);
            Checks.due("LOAD, STORE", x.run(9), PreciseTranslator.NO_CODE);
            Checks.due("LOAD from far below", x.reg(3), -8);
            Checks.due("STORE from far below", x.peek(0), 9);
            Checks.due("STORE above a negative", x.peek(7), -8);
            Checks.due("flags stay", x.flags(), flags);
        }
    }

    /** Only two ints far below 0 have a sum that wraps into the memory. */
    private static void addressesWrap() {
        for (int pages = 1; pages <= 4; pages++) {
            int last = pages * 8 - 1;
            PreciseTranslator x = new PreciseTranslator(pages, 2);
            x.poke(0, 40);
            x.poke(last, 41);
            x.setReg(1, MIN);
            x.emit(Checks.LOAD, 2, 1, MIN);
            x.emit(Checks.LOAD, 3, 1, MIN + last);
            x.emit(Checks.STORE, 3, 1, MIN);
            x.emit(Checks.STORE, 2, 1, MIN + last);
            x.emit(Checks.LOAD, 4, 1, MIN + last + 1);
            Checks.due("wrapped addresses", x.run(9), PreciseTranslator.OUTSIDE);
            Checks.due("wrapped outside", x.where(), last + 1);
            Checks.due("LOAD wraps to the first", x.reg(2), 40);
            Checks.due("LOAD wraps to the last", x.reg(3), 41);
            Checks.due("STORE wraps to the first", x.peek(0), 41);
            Checks.due("STORE wraps to the last", x.peek(last), 40);
        }
    }

    private static void outside(int op) {
        int[] bases = {0, 8, MAX, MIN, 0, -1, 4, MIN, MAX};
        int[] offsets = {8, 0, 1, 0, -1, 0, 4, -1, MAX};
        for (int rights = 0; rights <= 2; rights++) {
            for (int i = 0; i < bases.length; i++) {
                PreciseTranslator x = new PreciseTranslator(1, rights);
                x.setReg(2, bases[i]);
                x.setReg(1, 6);
                x.setFlags(5);
                x.emit(op, 1, 2, offsets[i]);
                Checks.due("OUTSIDE of " + op, x.run(5), PreciseTranslator.OUTSIDE);
                Checks.due("where of " + op, x.where(), bases[i] + offsets[i]);
                Checks.due("pc of " + op, x.pc(), 0);
                Checks.due("reg of " + op, x.reg(1), 6);
                Checks.due("flags of " + op, x.flags(), 5);
            }
        }
    }

    private static void firstAndLastAddress(int op) {
        for (int pages = 1; pages <= 4; pages++) {
            int last = pages * 8 - 1;
            reaches(op, pages, 0, PreciseTranslator.BUDGET, 0);
            reaches(op, pages, last, PreciseTranslator.BUDGET, 0);
            reaches(op, pages, -1, PreciseTranslator.OUTSIDE, -1);
            reaches(op, pages, last + 1, PreciseTranslator.OUTSIDE, last + 1);
        }
    }

    private static void reaches(int op, int pages, int address, int why, int where) {
        String what = "op " + op + " at " + address + " of " + pages + " pages: ";
        boolean done = why == PreciseTranslator.BUDGET;
        PreciseTranslator x = new PreciseTranslator(pages, 2);
        x.poke(address, 51);
        x.setReg(1, 61);
        x.setReg(2, 100);
        x.emit(op, 1, 2, address - 100);
        Checks.due(what + "run", x.run(1), why);
        Checks.due(what + "where", x.where(), where);
        Checks.due(what + "reg", x.reg(1), done && op == Checks.LOAD ? 51 : 61);
        Checks.due(what + "cell", x.peek(address), !done ? 0 : op == Checks.LOAD ? 51 : 61);
    }

    private static void rights() {
        for (int page = 0; page < 4; page++) {
            for (int rights = 0; rights <= 2; rights++) {
                for (int cell = page * 8; cell < page * 8 + 8; cell++) {
                    PreciseTranslator x = new PreciseTranslator(4, (rights + 1) % 3);
                    x.setPage(page, rights);
                    x.poke(cell, 70);
                    x.setReg(1, 60);
                    x.emit(Checks.STORE, 1, 0, cell);
                    x.emit(Checks.LOAD, 2, 0, cell);
                    boolean write = rights == 2;
                    Checks.due("STORE", x.run(1),
                            write ? PreciseTranslator.BUDGET : PreciseTranslator.NO_WRITE);
                    Checks.due("STORE where", x.where(), write ? 0 : cell);
                    Checks.due("STORE pc", x.pc(), write ? 1 : 0);
                    Checks.due("STORE cell", x.peek(cell), write ? 60 : 70);
                    x.jump(1);
                    boolean read = rights >= 1;
                    Checks.due("LOAD", x.run(1),
                            read ? PreciseTranslator.BUDGET : PreciseTranslator.NO_READ);
                    Checks.due("LOAD where", x.where(), read ? 0 : cell);
                    Checks.due("LOAD pc", x.pc(), read ? 2 : 1);
                    Checks.due("LOAD reg", x.reg(2), !read ? 0 : write ? 60 : 70);
                }
            }
        }
    }

    private static void jumpConditions() {
        for (int flags = 0; flags < 16; flags++) {
            boolean z = (flags & Z) != 0;
            boolean n = (flags & N) != 0;
            boolean c = (flags & C) != 0;
            boolean v = (flags & V) != 0;
            boolean[] taken = {true, z, !z, n, !n, c, v, n != v};
            for (int condition = 0; condition < 8; condition++) {
                jumps(condition, flags, taken[condition]);
                jumps(condition + 8, flags, taken[condition]);
                jumps(condition - 8, flags, taken[condition]);
                jumps(condition + MIN, flags, taken[condition]);
            }
        }
    }

    private static void jumps(int condition, int flags, boolean taken) {
        PreciseTranslator x = new PreciseTranslator(1, 2);
        x.emit(Checks.HALT, 0, 0, 0);
        x.emit(Checks.JUMP, condition, 0, 0);
        x.emit(Checks.HALT, 0, 0, 0);
        x.setFlags(flags);
        x.jump(1);
        Checks.due("JUMP runs", x.run(9), PreciseTranslator.HALTED);
        Checks.due("JUMP " + condition + " with flags " + flags, x.pc(), taken ? 0 : 2);
        Checks.due("JUMP counts as a step", x.steps(), 1);
        Checks.due("JUMP leaves flags", x.flags(), flags);
    }

    private static void jumpTargets() {
        int[] targets = {-1, 1, 39, 40, MIN, MAX};
        for (int target : targets) {
            PreciseTranslator x = new PreciseTranslator(1, 2);
            x.emit(Checks.JUMP, 0, 5, target);
            Checks.due("JUMP out", x.run(9), PreciseTranslator.NO_CODE);
            Checks.due("JUMP out pc", x.pc(), target);
            Checks.due("JUMP out steps", x.steps(), 1);
        }
        PreciseTranslator x = new PreciseTranslator(1, 2);
        x.emit(Checks.JUMP, 1, 0, 7);
        Checks.due("JUMP not taken at the end", x.run(9), PreciseTranslator.NO_CODE);
        Checks.due("JUMP not taken pc", x.pc(), 1);
    }

    private static void jumpToItself() {
        PreciseTranslator x = new PreciseTranslator(1, 2);
        x.emit(Checks.JUMP, 0, 0, 0);
        Checks.due("JUMP to itself", x.run(300), PreciseTranslator.BUDGET);
        Checks.due("JUMP to itself steps", x.steps(), 300);
        Checks.due("JUMP to itself pc", x.pc(), 0);
    }

    /** Register numbers are a & 7, b & 7 and c & 7; c alone is the int as it was given. */
    private static void operandsAreMasked() {
        int[] far = {8, 16, -8, 256, MIN, MAX - 7};
        for (int op = Checks.SET; op <= Checks.STORE; op++) {
            boolean registerC = op >= Checks.ADD && op <= Checks.DIV;
            String due = masked(op, 1, 2, 3);
            for (int more : far) {
                String what = "op " + op + " with an operand more by " + more;
                Checks.same(what + ", a", masked(op, 1 + more, 2, 3), due);
                Checks.same(what + ", b", masked(op, 1, 2 + more, 3), due);
                if (registerC) {
                    Checks.same(what + ", c", masked(op, 1, 2, 3 + more), due);
                }
            }
            Checks.same("op " + op + ", -7, -6", masked(op, -7, -6, 3), due);
        }
    }

    private static String masked(int op, int a, int b, int c) {
        PreciseTranslator x = new PreciseTranslator(4, 2);
        for (int index = 0; index < 8; index++) {
            x.setReg(index, 26 - 3 * index);
        }
        for (int address = 0; address < 32; address++) {
            x.poke(address, 1000 + address);
        }
        x.setFlags(C);
        x.emit(op, a, b, c);
        Checks.due("masked op " + op, x.run(1), PreciseTranslator.BUDGET);
        return Checks.seen(x);
    }

    private static void logicReadsFirst() {
        PreciseTranslator x = new PreciseTranslator(1, 2);
        x.setReg(1, 12);
        x.setReg(2, 10);
        x.emit(Checks.AND, 1, 1, 2);
        x.emit(Checks.XOR, 2, 1, 2);
        x.emit(Checks.AND, 1, 1, 1);
        x.emit(Checks.XOR, 1, 1, 1);
        x.run(2);
        Checks.due("AND over its left", x.reg(1), 8);
        Checks.due("XOR over its right", x.reg(2), 2);
        x.run(1);
        Checks.due("AND 1,1,1", x.reg(1), 8);
        x.run(1);
        Checks.due("XOR 1,1,1", x.reg(1), 0);
        Checks.due("XOR 1,1,1 flags", x.flags(), Z);
    }

    private static void operandsAreReadFirst() {
        PreciseTranslator x = new PreciseTranslator(1, 2);
        x.setReg(1, 21);
        x.emit(Checks.ADD, 1, 1, 1);
        x.emit(Checks.SUB, 1, 1, 1);
        x.run(1);
        Checks.due("ADD 1,1,1", x.reg(1), 42);
        x.run(1);
        Checks.due("SUB 1,1,1", x.reg(1), 0);
        Checks.due("SUB 1,1,1 flags", x.flags(), Z);

        x = new PreciseTranslator(1, 2);
        x.setReg(1, MIN);
        x.setFlags(C);
        x.emit(Checks.ADC, 1, 1, 1);
        x.run(1);
        Checks.due("ADC 1,1,1", x.reg(1), 1);
        Checks.due("ADC 1,1,1 flags", x.flags(), C + V);

        x = new PreciseTranslator(1, 2);
        x.setReg(1, 3);
        x.poke(5, 6);
        x.emit(Checks.LOAD, 1, 1, 2);
        x.emit(Checks.STORE, 1, 1, -6);
        x.run(2);
        Checks.due("LOAD over its base", x.reg(1), 6);
        Checks.due("STORE of its base", x.peek(0), 6);

        x = new PreciseTranslator(1, 2);
        x.setReg(2, 10);
        x.setReg(3, 3);
        x.emit(Checks.DIV, 3, 2, 3);
        x.emit(Checks.MUL, 3, 3, 3);
        x.emit(Checks.SHL, 3, 3, 1);
        x.run(3);
        Checks.due("DIV, MUL, SHL over an operand", x.reg(3), 18);
    }
}
