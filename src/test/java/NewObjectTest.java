/** Promise 1: a new object. */
public final class NewObjectTest {
    public static void main(String[] args) {
        pages();
        rights();
        allIsZero();
        Checks.finish();
    }

    private static void pages() {
        hasPages(1, 1);
        hasPages(2, 2);
        hasPages(3, 3);
        hasPages(4, 4);
        hasPages(0, 1);
        hasPages(-1, 1);
        hasPages(Checks.MIN, 1);
        hasPages(5, 4);
        hasPages(Checks.MAX, 4);
    }

    private static void hasPages(int asked, int due) {
        PreciseTranslator x = new PreciseTranslator(asked, 2);
        String what = "pages " + asked + ": ";
        int last = due * 8 - 1;
        Checks.due(what + "poke at last cell", x.poke(last, 5), 0);
        Checks.due(what + "poke behind", x.poke(last + 1, 5), PreciseTranslator.BAD_INDEX);
        Checks.due(what + "setPage at last page", x.setPage(due - 1, 2), 0);
        Checks.due(what + "setPage behind", x.setPage(due, 2), PreciseTranslator.BAD_INDEX);
        x.emit(Checks.LOAD, 1, 0, last);
        x.emit(Checks.LOAD, 1, 0, last + 1);
        Checks.due(what + "loads", x.run(9), PreciseTranslator.OUTSIDE);
        Checks.due(what + "loads done", x.steps(), 1);
    }

    private static void rights() {
        hasRights(0, 0);
        hasRights(1, 1);
        hasRights(2, 2);
        hasRights(-1, 0);
        hasRights(Checks.MIN, 0);
        hasRights(3, 2);
        hasRights(Checks.MAX, 2);
    }

    private static void hasRights(int asked, int due) {
        PreciseTranslator x = new PreciseTranslator(4, asked);
        x.emit(Checks.LOAD, 1, 0, 0);
        x.emit(Checks.HALT, 0, 0, 0);
        x.emit(Checks.STORE, 1, 0, 0);
        x.emit(Checks.HALT, 0, 0, 0);
        for (int page = 0; page < 4; page++) {
            String what = "rights " + asked + " page " + page + ": ";
            x.setReg(0, page * 8);
            x.jump(0);
            Checks.due(what + "load", x.run(9),
                    due >= 1 ? PreciseTranslator.HALTED : PreciseTranslator.NO_READ);
            x.jump(2);
            Checks.due(what + "store", x.run(9),
                    due == 2 ? PreciseTranslator.HALTED : PreciseTranslator.NO_WRITE);
        }
    }

    private static void allIsZero() {
        for (int pages = -1; pages <= 6; pages++) {
            for (int rights = -1; rights <= 3; rights++) {
                isZero(pages, rights);
            }
        }
        isZero(Checks.MIN, Checks.MAX);
        isZero(Checks.MAX, Checks.MIN);
    }

    private static void isZero(int pages, int rights) {
        PreciseTranslator x = new PreciseTranslator(pages, rights);
        for (int index = 0; index < 8; index++) {
            Checks.due("new reg " + index, x.reg(index), 0);
        }
        for (int address = 0; address < 32; address++) {
            Checks.due("new cell " + address, x.peek(address), 0);
        }
        Checks.due("new flags", x.flags(), 0);
        Checks.due("new pc", x.pc(), 0);
        Checks.due("new steps", x.steps(), 0);
        Checks.due("new where", x.where(), 0);
        Checks.due("new program runs", x.run(5), PreciseTranslator.NO_CODE);
        Checks.due("new program dropped", x.drop(), PreciseTranslator.EMPTY);
        Checks.due("first instruction", x.emit(0, 0, 0, 0), 0);
    }
}
