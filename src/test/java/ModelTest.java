import java.math.BigInteger;
import java.util.ArrayList;
import java.util.HashMap;
import java.util.List;
import java.util.Map;

/**
 * All promises together: many mixed runs of calls, each answer held against a second model of the
 * document that is written in another way (numbers without bounds, maps and lists). The calls come
 * from a fixed row of numbers, so that every run of this test is the same.
 */
public final class ModelTest {
    private static final int OBJECTS = 4000;
    // Of the 512 calls of an object, some are kept for the look at the whole state at the end.
    private static final int CALLS = 450;
    private static final BigInteger TWO_32 = BigInteger.ONE.shiftLeft(32);

    private static long row = 20261115;

    public static void main(String[] args) {
        for (int object = 0; object < OBJECTS; object++) {
            compare(object);
        }
        for (int why = 0; why <= 6; why++) {
            Checks.holds("stop " + why + " came often enough", stops[why] >= 1000);
        }
        Checks.finish();
    }

    private static final int[] stops = new int[7];

    private static int next(int bound) {
        row = row * 6364136223846793005L + 1442695040888963407L;
        return (int) ((row >>> 33) % bound);
    }

    /** Small numbers mostly, edges often, any int sometimes. */
    private static int number() {
        int[] edges = {Checks.MIN, Checks.MAX, Checks.MIN + 1, -1, 0, 1, 7, 8, 31, 32, 39, 40, 300};
        switch (next(8)) {
            case 0:
                return edges[next(edges.length)];
            case 1:
                return (next(65536) << 16) | next(65536);
            case 2:
                return -next(20);
            default:
                return next(34);
        }
    }

    private static void compare(int object) {
        int pages = next(7) - 1;
        int rights = next(3) == 0 ? next(6) - 2 : 2;
        PreciseTranslator x = new PreciseTranslator(pages, rights);
        Model m = new Model(pages, rights);
        String what = "object " + object + " call ";
        int size = next(40);
        int call = 0;
        for (; call < size; call++) {
            int op = next(13);
            int a = next(16) - 4;
            int b = next(9);
            int c = op == Checks.JUMP ? next(size + 1) : number();
            Checks.due(what + call, x.emit(op, a, b, c), m.emit(op, a, b, c));
        }
        for (; call < CALLS; call++) {
            oneCall(what + call, x, m);
        }
        Checks.same(what + "at the end", Checks.seen(x), m.seen());
    }

    private static void oneCall(String what, PreciseTranslator x, Model m) {
        int first = number();
        int second = number();
        int third = number();
        switch (next(24)) {
            case 0:
                int op = next(15) - 1;
                Checks.due(what + " emit", x.emit(op, first, second, third),
                        m.emit(op, first, second, third));
                break;
            case 1:
                Checks.due(what + " drop", x.drop(), m.drop());
                break;
            case 2:
            case 3:
                int index = next(10) - 1;
                Checks.due(what + " setReg", x.setReg(index, first), m.setReg(index, first));
                break;
            case 4:
                x.setFlags(first);
                m.setFlags(first);
                break;
            case 5:
            case 6:
                Checks.due(what + " poke", x.poke(first, second), m.poke(first, second));
                break;
            case 7:
                int page = next(6) - 1;
                int rights = next(5) - 1;
                Checks.due(what + " setPage", x.setPage(page, rights), m.setPage(page, rights));
                break;
            case 8:
            case 9:
                x.jump(first);
                m.jump(first);
                break;
            case 10:
            case 11:
            case 12:
            case 13:
            case 14:
                int budget = next(2) == 0 ? next(20) : number();
                int why = x.run(budget);
                stops[why]++;
                Checks.due(what + " run", why, m.run(budget));
                break;
            case 15:
                // Seldom, or there would be little state to look at.
                if (next(6) == 0) {
                    x.reset();
                    m.reset();
                }
                break;
            case 16:
            case 17:
                int shown = next(10) - 1;
                Checks.due(what + " reg", x.reg(shown), m.reg(shown));
                break;
            case 18:
                Checks.due(what + " flags", x.flags(), m.flags());
                break;
            case 19:
            case 20:
                Checks.due(what + " peek", x.peek(first), m.peek(first));
                break;
            case 21:
                Checks.due(what + " pc", x.pc(), m.pc);
                break;
            case 22:
                Checks.due(what + " steps", x.steps(), m.steps);
                break;
            default:
                Checks.due(what + " where", x.where(), m.where);
                break;
        }
    }

    private static final class Model {
        private final int pages;
        private final Map<Integer, Integer> rights = new HashMap<>();
        private final Map<Integer, Integer> registers = new HashMap<>();
        private final Map<Integer, Integer> cells = new HashMap<>();
        private final List<int[]> program = new ArrayList<>();
        private boolean z;
        private boolean n;
        private boolean c;
        private boolean v;
        private int pc;
        private int steps;
        private int where;

        Model(int pages, int rights) {
            this.pages = Math.min(4, Math.max(1, pages));
            for (int page = 0; page < this.pages; page++) {
                this.rights.put(page, Math.min(2, Math.max(0, rights)));
            }
        }

        int emit(int op, int a, int b, int c) {
            if (op < 0 || op > 12) {
                return -1;
            }
            if (program.size() == 40) {
                return -2;
            }
            program.add(new int[] {op, a, b, c});
            return program.size() - 1;
        }

        int drop() {
            if (program.isEmpty()) {
                return -3;
            }
            program.remove(program.size() - 1);
            return program.size();
        }

        int setReg(int index, int value) {
            if (index < 0 || index > 7) {
                return -4;
            }
            registers.put(index, value);
            return 0;
        }

        void setFlags(int bits) {
            z = (bits & 1) != 0;
            n = (bits & 2) != 0;
            c = (bits & 4) != 0;
            v = (bits & 8) != 0;
        }

        boolean hasCell(int address) {
            return 0 <= address && address < pages * 8;
        }

        int poke(int address, int value) {
            if (!hasCell(address)) {
                return -4;
            }
            cells.put(address, value);
            return 0;
        }

        int setPage(int page, int right) {
            if (!rights.containsKey(page)) {
                return -4;
            }
            if (right < 0 || right > 2) {
                return -5;
            }
            rights.put(page, right);
            return 0;
        }

        void jump(int target) {
            pc = target;
        }

        void reset() {
            registers.clear();
            cells.clear();
            setFlags(0);
            pc = 0;
            steps = 0;
            where = 0;
        }

        int reg(int index) {
            return registers.getOrDefault(index, 0);
        }

        int peek(int address) {
            return cells.getOrDefault(address, 0);
        }

        int flags() {
            return (z ? 1 : 0) + (n ? 2 : 0) + (c ? 4 : 0) + (v ? 8 : 0);
        }

        int run(int budget) {
            int left = Math.min(300, Math.max(0, budget));
            steps = 0;
            where = 0;
            while (left > 0) {
                if (pc < 0 || pc >= program.size()) {
                    return 2;
                }
                int[] code = program.get(pc);
                int stop = stopOf(code);
                if (stop != 0) {
                    return stop;
                }
                carryOut(code);
                steps++;
                left--;
            }
            return 0;
        }

        /** Looks only, so that a stop can't leave half an instruction behind. */
        private int stopOf(int[] code) {
            int op = code[0];
            if (op == Checks.HALT) {
                return 1;
            }
            if (op == Checks.DIV && reg(code[3] & 7) == 0) {
                return 6;
            }
            if (op != Checks.LOAD && op != Checks.STORE) {
                return 0;
            }
            int address = reg(code[2] & 7) + code[3];
            int stop = 0;
            if (!hasCell(address)) {
                stop = 3;
            } else if (op == Checks.LOAD && rights.get(address / 8) == 0) {
                stop = 4;
            } else if (op == Checks.STORE && rights.get(address / 8) < 2) {
                stop = 5;
            }
            where = stop == 0 ? 0 : address;
            return stop;
        }

        private void carryOut(int[] code) {
            int a = code[1] & 7;
            BigInteger left = BigInteger.valueOf(reg(code[2] & 7));
            BigInteger right = BigInteger.valueOf(reg(code[3] & 7));
            BigInteger old = c ? BigInteger.ONE : BigInteger.ZERO;
            int target = pc + 1;
            switch (code[0]) {
                case Checks.SET -> registers.put(a, code[3]);
                case Checks.ADD -> sum(a, left, right, BigInteger.ZERO);
                case Checks.ADC -> sum(a, left, right, old);
                case Checks.SUB -> {
                    c = left.mod(TWO_32).compareTo(right.mod(TWO_32)) < 0;
                    signed(a, left.subtract(right));
                }
                case Checks.AND -> {
                    c = false;
                    signed(a, left.and(right));
                }
                case Checks.XOR -> {
                    c = false;
                    signed(a, left.xor(right));
                }
                case Checks.MUL -> registers.put(a, left.multiply(right).intValue());
                case Checks.DIV -> registers.put(a, left.divide(right).intValue());
                case Checks.SHL -> registers.put(a, left.shiftLeft(code[3] & 31).intValue());
                case Checks.LOAD -> registers.put(a, peek(left.intValue() + code[3]));
                case Checks.STORE -> cells.put(left.intValue() + code[3], reg(a));
                default -> target = condition(a) ? code[3] : target;
            }
            pc = target;
        }

        private void sum(int a, BigInteger left, BigInteger right, BigInteger carry) {
            c = left.mod(TWO_32).add(right.mod(TWO_32)).add(carry).compareTo(TWO_32) >= 0;
            signed(a, left.add(right).add(carry));
        }

        private void signed(int a, BigInteger exact) {
            int result = exact.intValue();
            v = exact.bitLength() > 31;
            z = result == 0;
            n = result < 0;
            registers.put(a, result);
        }

        private boolean condition(int number) {
            boolean[] holds = {true, z, !z, n, !n, c, v, n ^ v};
            return holds[number];
        }

        String seen() {
            StringBuilder text = new StringBuilder();
            for (int index = 0; index < 8; index++) {
                text.append(reg(index)).append(' ');
            }
            for (int address = 0; address < 32; address++) {
                text.append(peek(address)).append(' ');
            }
            return text + "flags " + flags() + " pc " + pc + " steps " + steps + " where " + where;
        }
    }
}
