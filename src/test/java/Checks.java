/** Counts and prints the answers that are not due; shared by the tests of the project. */
final class Checks {
    static final int SET = 0;
    static final int ADD = 1;
    static final int SUB = 2;
    static final int AND = 3;
    static final int XOR = 4;
    static final int ADC = 5;
    static final int MUL = 6;
    static final int DIV = 7;
    static final int SHL = 8;
    static final int LOAD = 9;
    static final int STORE = 10;
    static final int JUMP = 11;
    static final int HALT = 12;

    static final int Z = 1;
    static final int N = 2;
    static final int C = 4;
    static final int V = 8;

    static final int MAX = 0x7FFFFFFF;
    static final int MIN = 0x80000000;

    private static int checked = 0;
    private static int wrong = 0;

    private Checks() {
    }

    static void due(String what, long got, long want) {
        checked++;
        if (got != want) {
            wrong++;
            System.out.println(what + ": answered " + got + ", due is " + want);
        }
    }

    static void holds(String what, boolean so) {
        due(what, so ? 1 : 0, 1);
    }

    /** Everything of the machine that can be seen, so that "changes nothing" can be tested. */
    static String seen(PreciseTranslator x) {
        StringBuilder text = new StringBuilder();
        for (int index = 0; index < 8; index++) {
            text.append(x.reg(index)).append(' ');
        }
        for (int address = 0; address < 32; address++) {
            text.append(x.peek(address)).append(' ');
        }
        text.append("flags ").append(x.flags()).append(" pc ").append(x.pc());
        text.append(" steps ").append(x.steps()).append(" where ").append(x.where());
        return text.toString();
    }

    static void same(String what, String got, String want) {
        checked++;
        if (!got.equals(want)) {
            wrong++;
            System.out.println(what + ": seen " + got + ", due is " + want);
        }
    }

    static void finish() {
        System.out.println(checked + " checks, " + wrong + " wrong");
        if (wrong != 0 || checked == 0) {
            System.exit(1);
        }
    }
}
