/** Promises 4 to 8 and 10 to 16: what sets the machine state from outside, and what shows it. */
public final class StateTest {
    public static void main(String[] args) {
        registers();
        flags();
        cells();
        cellsOfEachSize();
        pageRefusals();
        pagesOfEachSize();
        pageRights();
        jump();
        reset();
        stepsAndWhereAreOfTheLastRun();
        objectsAreApart();
        lastPromisedCall();
        Checks.finish();
    }

    private static void registers() {
        PreciseTranslator x = new PreciseTranslator(1, 0);
        for (int index = 0; index < 8; index++) {
            Checks.due("setReg " + index, x.setReg(index, 1000 + index), 0);
        }
        String before = Checks.seen(x);
        int[] bad = {-1, 8, 9, 16, -8, Checks.MIN, Checks.MAX};
        for (int index : bad) {
            Checks.due("setReg " + index, x.setReg(index, 7), PreciseTranslator.BAD_INDEX);
            Checks.due("reg " + index, x.reg(index), 0);
        }
        Checks.same("bad setReg", Checks.seen(x), before);
        for (int index = 0; index < 8; index++) {
            Checks.due("reg " + index, x.reg(index), 1000 + index);
        }
        x.setReg(3, Checks.MIN);
        Checks.due("reg least", x.reg(3), Checks.MIN);
        x.setReg(3, Checks.MAX);
        Checks.due("reg greatest", x.reg(3), Checks.MAX);
        Checks.due("setReg leaves flags", x.flags(), 0);
    }

    private static void flags() {
        PreciseTranslator x = new PreciseTranslator(1, 0);
        for (int bits = 0; bits < 16; bits++) {
            x.setFlags(bits);
            Checks.due("flags " + bits, x.flags(), bits);
            x.setFlags(bits | 0xFFFFFFF0);
            Checks.due("flags with high bits " + bits, x.flags(), bits);
        }
        x.setFlags(16);
        Checks.due("flags 16", x.flags(), 0);
        x.setFlags(Checks.MIN);
        Checks.due("flags least", x.flags(), 0);
        x.setFlags(Checks.MAX);
        Checks.due("flags greatest", x.flags(), 15);
        x.setFlags(0);
        Checks.due("flags cleared", x.flags(), 0);
    }

    private static void cells() {
        for (int rights = 0; rights <= 2; rights++) {
            PreciseTranslator x = new PreciseTranslator(3, rights);
            for (int address = 0; address < 24; address++) {
                Checks.due("poke " + address, x.poke(address, 500 - address), 0);
            }
            String before = Checks.seen(x);
            int[] bad = {-1, 24, 25, 31, 32, Checks.MIN, Checks.MAX};
            for (int address : bad) {
                Checks.due("poke " + address, x.poke(address, 1), PreciseTranslator.BAD_INDEX);
                Checks.due("peek " + address, x.peek(address), 0);
            }
            Checks.same("bad poke", Checks.seen(x), before);
            for (int address = 0; address < 24; address++) {
                Checks.due("peek " + address, x.peek(address), 500 - address);
            }
        }
    }

    private static void cellsOfEachSize() {
        for (int pages = 1; pages <= 4; pages++) {
            String what = pages + " pages: ";
            PreciseTranslator x = new PreciseTranslator(pages, 0);
            int last = pages * 8 - 1;
            Checks.due(what + "poke first", x.poke(0, Checks.MIN), 0);
            Checks.due(what + "poke last", x.poke(last, Checks.MAX), 0);
            Checks.due(what + "poke below", x.poke(-1, 5), PreciseTranslator.BAD_INDEX);
            Checks.due(what + "poke behind", x.poke(last + 1, 5), PreciseTranslator.BAD_INDEX);
            Checks.due(what + "peek first", x.peek(0), Checks.MIN);
            Checks.due(what + "peek last", x.peek(last), Checks.MAX);
            Checks.due(what + "peek below", x.peek(-1), 0);
            Checks.due(what + "peek behind", x.peek(last + 1), 0);
        }
    }

    private static void pagesOfEachSize() {
        for (int pages = 1; pages <= 4; pages++) {
            String what = pages + " pages: ";
            PreciseTranslator x = new PreciseTranslator(pages, 1);
            Checks.due(what + "below", x.setPage(-1, 2), PreciseTranslator.BAD_INDEX);
            Checks.due(what + "behind", x.setPage(pages, 2), PreciseTranslator.BAD_INDEX);
            Checks.due(what + "behind, bad rights", x.setPage(pages, 3),
                    PreciseTranslator.BAD_INDEX);
            Checks.due(what + "rights below", x.setPage(pages - 1, -1),
                    PreciseTranslator.BAD_RIGHTS);
            Checks.due(what + "rights above", x.setPage(0, 3), PreciseTranslator.BAD_RIGHTS);
            for (int page = 0; page < pages; page++) {
                Checks.due(what + "rights stay", rightsOf(x, page), 1);
                Checks.due(what + "least rights", x.setPage(page, 0), 0);
                Checks.due(what + "least rights", rightsOf(x, page), 0);
                Checks.due(what + "greatest rights", x.setPage(page, 2), 0);
                Checks.due(what + "greatest rights", rightsOf(x, page), 2);
            }
        }
    }

    private static void pageRefusals() {
        PreciseTranslator x = new PreciseTranslator(2, 1);
        Checks.due("page -1", x.setPage(-1, 2), PreciseTranslator.BAD_INDEX);
        Checks.due("page 2 of 2", x.setPage(2, 2), PreciseTranslator.BAD_INDEX);
        Checks.due("page 3 of 2", x.setPage(3, 2), PreciseTranslator.BAD_INDEX);
        Checks.due("page least", x.setPage(Checks.MIN, 2), PreciseTranslator.BAD_INDEX);
        Checks.due("page greatest", x.setPage(Checks.MAX, 2), PreciseTranslator.BAD_INDEX);
        Checks.due("rights -1", x.setPage(0, -1), PreciseTranslator.BAD_RIGHTS);
        Checks.due("rights 3", x.setPage(1, 3), PreciseTranslator.BAD_RIGHTS);
        Checks.due("rights least", x.setPage(1, Checks.MIN), PreciseTranslator.BAD_RIGHTS);
        Checks.due("rights greatest", x.setPage(1, Checks.MAX), PreciseTranslator.BAD_RIGHTS);
        Checks.due("page before rights", x.setPage(2, 3), PreciseTranslator.BAD_INDEX);
        Checks.due("page before rights", x.setPage(-1, -1), PreciseTranslator.BAD_INDEX);
        for (int page = 0; page < 2; page++) {
            Checks.due("rights stay", rightsOf(x, page), 1);
        }
    }

    private static void pageRights() {
        for (int page = 0; page < 4; page++) {
            PreciseTranslator x = new PreciseTranslator(4, 1);
            for (int rights = 2; rights >= 0; rights--) {
                Checks.due("setPage", x.setPage(page, rights), 0);
                for (int other = 0; other < 4; other++) {
                    int due = other == page ? rights : 1;
                    Checks.due("rights of page " + other, rightsOf(x, other), due);
                }
            }
        }
    }

    /** Finds the rights by trying, at the first and at the last cell of the page. */
    private static int rightsOf(PreciseTranslator x, int page) {
        int first = tried(x, page * 8);
        int last = tried(x, page * 8 + 7);
        return first == last ? first : -1;
    }

    private static int tried(PreciseTranslator x, int address) {
        x.setReg(1, address);
        int load = x.emit(Checks.LOAD, 2, 1, 0);
        x.jump(load);
        int loaded = x.run(1);
        x.drop();
        int store = x.emit(Checks.STORE, 2, 1, 0);
        x.jump(store);
        int stored = x.run(1);
        x.drop();
        if (loaded == PreciseTranslator.NO_READ && stored == PreciseTranslator.NO_WRITE) {
            return 0;
        }
        if (loaded == PreciseTranslator.BUDGET && stored == PreciseTranslator.NO_WRITE) {
            return 1;
        }
        return loaded == PreciseTranslator.BUDGET && stored == PreciseTranslator.BUDGET ? 2 : -1;
    }

    private static void jump() {
        PreciseTranslator x = new PreciseTranslator(1, 2);
        x.emit(Checks.SET, 1, 0, 10);
        x.emit(Checks.SET, 2, 0, 20);
        int[] outside = {2, 3, 40, 41, -1, Checks.MIN, Checks.MAX};
        for (int target : outside) {
            x.jump(target);
            Checks.due("pc after jump " + target, x.pc(), target);
            Checks.due("run at " + target, x.run(5), PreciseTranslator.NO_CODE);
            Checks.due("pc stays " + target, x.pc(), target);
            Checks.due("no step at " + target, x.steps(), 0);
        }
        x.jump(1);
        Checks.due("jump in", x.run(5), PreciseTranslator.NO_CODE);
        Checks.due("jumped over", x.reg(1), 0);
        Checks.due("jumped to", x.reg(2), 20);
        Checks.due("pc", x.pc(), 2);
    }

    private static void reset() {
        PreciseTranslator x = new PreciseTranslator(4, 1);
        x.setPage(2, 0);
        x.setPage(3, 2);
        x.emit(Checks.SET, 1, 0, 5);
        x.emit(Checks.STORE, 1, 0, 31);
        x.emit(Checks.LOAD, 1, 0, 16);
        for (int index = 0; index < 8; index++) {
            x.setReg(index, index == 0 ? 0 : -index);
        }
        for (int address = 0; address < 32; address++) {
            x.poke(address, address + 1);
        }
        x.setFlags(15);
        Checks.due("run", x.run(9), PreciseTranslator.NO_READ);
        Checks.due("where before", x.where(), 16);
        Checks.due("steps before", x.steps(), 2);
        x.setReg(0, 9);
        x.reset();
        Checks.same("reset", Checks.seen(x), Checks.seen(new PreciseTranslator(4, 1)));
        Checks.due("program and rights stay", x.run(9), PreciseTranslator.NO_READ);
        Checks.due("where after", x.where(), 16);
        Checks.due("stored after", x.peek(31), 5);
        Checks.due("rights of 0", rightsOf(x, 0), 1);
        Checks.due("rights of 2", rightsOf(x, 2), 0);
        Checks.due("rights of 3", rightsOf(x, 3), 2);
        Checks.due("program has 3", x.emit(Checks.HALT, 0, 0, 0), 3);

        x.jump(-5);
        x.reset();
        Checks.due("pc after reset", x.pc(), 0);
        resetOfNoneAndOfFull();
    }

    private static void resetOfNoneAndOfFull() {
        PreciseTranslator x = new PreciseTranslator(1, 0);
        x.reset();
        Checks.same("reset at once", Checks.seen(x), Checks.seen(new PreciseTranslator(1, 0)));
        Checks.due("still empty", x.drop(), PreciseTranslator.EMPTY);
        Checks.due("rights stay 0", rightsOf(x, 0), 0);

        x = new PreciseTranslator(1, 2);
        for (int i = 0; i < 40; i++) {
            x.emit(Checks.SET, i, 0, 600 + i);
        }
        Checks.due("run of 40", x.run(300), PreciseTranslator.NO_CODE);
        x.reset();
        Checks.due("still full", x.emit(Checks.HALT, 0, 0, 0), PreciseTranslator.NO_ROOM);
        Checks.due("run of 40 again", x.run(300), PreciseTranslator.NO_CODE);
        Checks.due("steps of 40 again", x.steps(), 40);
        Checks.due("last done again", x.reg(7), 639);
    }

    private static void stepsAndWhereAreOfTheLastRun() {
        PreciseTranslator x = new PreciseTranslator(4, 2);
        x.emit(Checks.SET, 1, 0, 5);
        x.emit(Checks.LOAD, 1, 0, 32);
        x.run(9);
        x.setReg(1, 4);
        x.setFlags(3);
        x.poke(2, 2);
        x.setPage(0, 0);
        x.jump(0);
        x.emit(Checks.HALT, 0, 0, 0);
        x.drop();
        Checks.due("steps stay until the next run", x.steps(), 1);
        Checks.due("where stays until the next run", x.where(), 32);
        x.run(0);
        Checks.due("steps of an empty run", x.steps(), 0);
        Checks.due("where of an empty run", x.where(), 0);
    }

    private static void objectsAreApart() {
        PreciseTranslator x = new PreciseTranslator(1, 2);
        PreciseTranslator y = new PreciseTranslator(4, 0);
        x.setReg(1, 5);
        x.poke(1, 6);
        x.setFlags(9);
        x.jump(3);
        x.emit(Checks.HALT, 0, 0, 0);
        Checks.same("other object", Checks.seen(y), Checks.seen(new PreciseTranslator(4, 0)));
        Checks.due("other program", y.emit(Checks.HALT, 0, 0, 0), 0);
    }

    /** The 512th call after the making is still promised. */
    private static void lastPromisedCall() {
        PreciseTranslator x = new PreciseTranslator(4, 2);
        int calls = 0;
        for (; calls < 40; calls++) {
            x.emit(Checks.ADD, 1, 1, 7);
        }
        x.setReg(7, 3);
        calls++;
        for (int i = 0; i < 235; i++) {
            Checks.due("run in call " + (calls + 1), x.run(1), i < 40
                    ? PreciseTranslator.BUDGET : PreciseTranslator.NO_CODE);
            Checks.due("reg in call " + (calls + 2), x.reg(1), 3 * Math.min(40, i + 1));
            calls += 2;
        }
        Checks.due("calls before the last", calls, 511);
        Checks.due("pc in call 512", x.pc(), 40);
    }
}
