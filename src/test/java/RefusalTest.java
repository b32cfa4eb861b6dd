/** The refusals of a call are tested in the order listed, and a refused call changes nothing. */
public final class RefusalTest {
    private static final int MIN = Checks.MIN;
    private static final int MAX = Checks.MAX;
    private static final int[] BAD_OPS = {-1, 13, MIN, MAX};
    private static final int[] BAD_REGISTERS = {-1, 8, MIN, MAX};
    private static final int[] BAD_ADDRESSES = {-1, 24, 31, 32, MIN, MAX};
    private static final int[] BAD_PAGES = {-1, 3, 4, MIN, MAX};
    private static final int[] BAD_RIGHTS = {-1, 3, MIN, MAX};

    public static void main(String[] args) {
        emitBadOp();
        emitNoRoom();
        emitBadOpComesFirst();
        dropEmpty();
        setReg();
        poke();
        setPageBadIndex();
        setPageBadRights();
        setPageBadIndexComesFirst();
        reg();
        peek();
        Checks.finish();
    }

    /** A machine in which everything has a value of its own, with so many instructions. */
    private static PreciseTranslator filled(int instructions) {
        PreciseTranslator x = new PreciseTranslator(3, 1);
        x.setPage(0, 2);
        x.setPage(2, 0);
        stopInAFault(x);
        for (int number = 0; number < instructions; number++) {
            x.emit(Checks.SET, number, 0, 700 + number);
        }
        for (int index = 0; index < 8; index++) {
            x.setReg(index, 100 + index);
        }
        for (int address = 0; address < 24; address++) {
            x.poke(address, 200 + address);
        }
        x.setFlags(10);
        return x;
    }

    // So that pc, steps and where are not 0, whatever the program is afterwards.
    private static void stopInAFault(PreciseTranslator x) {
        x.emit(Checks.SET, 2, 0, 20);
        x.emit(Checks.LOAD, 1, 2, -50);
        Checks.due("fault", x.run(9), PreciseTranslator.OUTSIDE);
        Checks.due("fault steps", x.steps(), 1);
        Checks.due("fault where", x.where(), -30);
        x.drop();
        x.drop();
    }

    /** All that can be seen, then what can be found out by trying: the program and the rights. */
    private static String everything(PreciseTranslator x) {
        StringBuilder text = new StringBuilder(Checks.seen(x));
        for (int number = 0; number <= 40; number++) {
            x.jump(number);
            text.append(" / ").append(x.run(1)).append(' ').append(x.reg(number & 7));
            text.append(' ').append(x.where());
        }
        int left = x.drop();
        text.append(" / program ").append(left);
        while (left > 0) {
            left = x.drop();
        }
        text.append(" / first ").append(x.emit(Checks.LOAD, 1, 2, 0));
        x.emit(Checks.STORE, 1, 2, 0);
        for (int page = 0; page < 3; page++) {
            x.setReg(2, page * 8);
            for (int number = 0; number < 2; number++) {
                x.jump(number);
                text.append(" / page ").append(page).append(' ').append(x.run(1));
            }
        }
        return text.toString();
    }

    private static void unchanged(String what, PreciseTranslator x, int instructions) {
        Checks.same(what, everything(x), everything(filled(instructions)));
    }

    private static void emitBadOp() {
        for (int instructions : new int[] {0, 5, 39}) {
            for (int op : BAD_OPS) {
                PreciseTranslator x = filled(instructions);
                Checks.due("emit " + op, x.emit(op, 3, 4, 5), PreciseTranslator.BAD_OP);
                unchanged("emit " + op, x, instructions);
            }
        }
    }

    private static void emitNoRoom() {
        for (int op = 0; op <= 12; op++) {
            PreciseTranslator x = filled(40);
            Checks.due("41st, op " + op, x.emit(op, 3, 4, 5), PreciseTranslator.NO_ROOM);
            Checks.due("42nd, op " + op, x.emit(op, 3, 4, 5), PreciseTranslator.NO_ROOM);
            unchanged("41st, op " + op, x, 40);
        }
    }

    private static void emitBadOpComesFirst() {
        for (int op : BAD_OPS) {
            PreciseTranslator x = filled(40);
            Checks.due("full, emit " + op, x.emit(op, 3, 4, 5), PreciseTranslator.BAD_OP);
            unchanged("full, emit " + op, x, 40);
        }
    }

    private static void dropEmpty() {
        PreciseTranslator x = filled(0);
        Checks.due("drop of none", x.drop(), PreciseTranslator.EMPTY);
        Checks.due("drop of none again", x.drop(), PreciseTranslator.EMPTY);
        unchanged("drop of none", x, 0);
    }

    private static void setReg() {
        for (int index : BAD_REGISTERS) {
            PreciseTranslator x = filled(5);
            Checks.due("setReg " + index, x.setReg(index, 9), PreciseTranslator.BAD_INDEX);
            unchanged("setReg " + index, x, 5);
        }
    }

    private static void poke() {
        for (int address : BAD_ADDRESSES) {
            PreciseTranslator x = filled(5);
            Checks.due("poke " + address, x.poke(address, 9), PreciseTranslator.BAD_INDEX);
            unchanged("poke " + address, x, 5);
        }
    }

    private static void setPageBadIndex() {
        for (int page : BAD_PAGES) {
            for (int rights = 0; rights <= 2; rights++) {
                PreciseTranslator x = filled(5);
                String what = "setPage " + page + ", " + rights;
                Checks.due(what, x.setPage(page, rights), PreciseTranslator.BAD_INDEX);
                unchanged(what, x, 5);
            }
        }
    }

    private static void setPageBadRights() {
        for (int page = 0; page < 3; page++) {
            for (int rights : BAD_RIGHTS) {
                PreciseTranslator x = filled(5);
                String what = "setPage " + page + ", " + rights;
                Checks.due(what, x.setPage(page, rights), PreciseTranslator.BAD_RIGHTS);
                unchanged(what, x, 5);
            }
        }
    }

    private static void setPageBadIndexComesFirst() {
        for (int page : BAD_PAGES) {
            for (int rights : BAD_RIGHTS) {
                PreciseTranslator x = filled(5);
                String what = "setPage " + page + ", " + rights;
                Checks.due(what, x.setPage(page, rights), PreciseTranslator.BAD_INDEX);
                unchanged(what, x, 5);
            }
        }
    }

    private static void reg() {
        for (int index : BAD_REGISTERS) {
            PreciseTranslator x = filled(5);
            Checks.due("reg " + index, x.reg(index), 0);
            unchanged("reg " + index, x, 5);
        }
    }

    private static void peek() {
        for (int address : BAD_ADDRESSES) {
            PreciseTranslator x = filled(5);
            Checks.due("peek " + address, x.peek(address), 0);
            unchanged("peek " + address, x, 5);
        }
    }
}
