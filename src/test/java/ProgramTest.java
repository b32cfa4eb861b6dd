/** Promises 2 and 3: emit and drop. */
public final class ProgramTest {
    public static void main(String[] args) {
        emitOps();
        emitRoom();
        firstAndLastNumber();
        emitKeepsOperands();
        dropAnswers();
        dropAndEmitAgain();
        programChangesLeaveMachine();
        Checks.finish();
    }

    private static void emitOps() {
        PreciseTranslator x = new PreciseTranslator(1, 2);
        int[] bad = {-1, 13, 14, 256, Checks.MIN, Checks.MAX};
        for (int op : bad) {
            Checks.due("emit op " + op, x.emit(op, 0, 0, 0), PreciseTranslator.BAD_OP);
        }
        for (int op = 0; op <= 12; op++) {
            Checks.due("emit op " + op, x.emit(op, -1, 99, Checks.MIN), op);
        }
        Checks.due("bad ops took no number", x.drop(), 12);
    }

    private static void emitRoom() {
        PreciseTranslator x = new PreciseTranslator(1, 2);
        for (int i = 0; i < 40; i++) {
            Checks.due("emit " + i, x.emit(Checks.SET, 1, 0, i), i);
        }
        Checks.due("emit 41st", x.emit(Checks.SET, 1, 0, 77), PreciseTranslator.NO_ROOM);
        Checks.due("bad op before no room", x.emit(13, 0, 0, 0), PreciseTranslator.BAD_OP);
        Checks.due("bad op before no room", x.emit(-1, 0, 0, 0), PreciseTranslator.BAD_OP);
        Checks.due("run of 40", x.run(300), PreciseTranslator.NO_CODE);
        Checks.due("steps of 40", x.steps(), 40);
        Checks.due("pc of 40", x.pc(), 40);
        Checks.due("last value", x.reg(1), 39);
        Checks.due("drop from 40", x.drop(), 39);
        Checks.due("emit again", x.emit(Checks.SET, 1, 0, 5), 39);
        Checks.due("full again", x.emit(Checks.SET, 1, 0, 5), PreciseTranslator.NO_ROOM);
    }

    private static void firstAndLastNumber() {
        PreciseTranslator x = new PreciseTranslator(1, 2);
        for (int i = 0; i < 40; i++) {
            x.emit(Checks.SET, 1, 0, 500 + i);
        }
        int[] inside = {0, 1, 38, 39};
        for (int number : inside) {
            x.jump(number);
            Checks.due("run at " + number, x.run(1), PreciseTranslator.BUDGET);
            Checks.due("value at " + number, x.reg(1), 500 + number);
            Checks.due("pc after " + number, x.pc(), number + 1);
        }
        int[] outside = {-1, 40, 41, Checks.MIN, Checks.MAX};
        for (int number : outside) {
            x.jump(number);
            Checks.due("run at " + number, x.run(1), PreciseTranslator.NO_CODE);
        }
        Checks.due("drop", x.drop(), 39);
        x.jump(39);
        Checks.due("run at the dropped", x.run(1), PreciseTranslator.NO_CODE);
        x.jump(38);
        Checks.due("run at the last left", x.run(1), PreciseTranslator.BUDGET);
    }

    private static void emitKeepsOperands() {
        PreciseTranslator x = new PreciseTranslator(1, 2);
        x.setReg(5, 30);
        x.setReg(6, 12);
        x.emit(Checks.SET, 8 + 1, 0, Checks.MIN);
        x.emit(Checks.SUB, -6, 16 + 5, -2);
        x.emit(Checks.SET, Checks.MAX, 0, -9);
        Checks.due("run", x.run(3), PreciseTranslator.BUDGET);
        Checks.due("a masked, c whole", x.reg(1), Checks.MIN);
        Checks.due("all masked", x.reg(2), 18);
        Checks.due("greatest a", x.reg(7), -9);
    }

    private static void dropAnswers() {
        PreciseTranslator x = new PreciseTranslator(1, 2);
        Checks.due("drop of none at first", x.drop(), PreciseTranslator.EMPTY);
        x.emit(Checks.HALT, 0, 0, 0);
        x.emit(Checks.HALT, 0, 0, 0);
        Checks.due("drop to 1", x.drop(), 1);
        Checks.due("drop to 0", x.drop(), 0);
        Checks.due("drop of none", x.drop(), PreciseTranslator.EMPTY);
        Checks.due("drop of none again", x.drop(), PreciseTranslator.EMPTY);
        Checks.due("emit after empty", x.emit(Checks.HALT, 0, 0, 0), 0);
        dropsFromFull();
    }

    private static void dropsFromFull() {
        PreciseTranslator x = new PreciseTranslator(1, 2);
        for (int i = 0; i < 40; i++) {
            x.emit(Checks.HALT, 0, 0, 0);
        }
        for (int left = 39; left >= 0; left--) {
            Checks.due("drop to " + left, x.drop(), left);
        }
        Checks.due("drop of none after 40", x.drop(), PreciseTranslator.EMPTY);
    }

    private static void dropAndEmitAgain() {
        PreciseTranslator x = new PreciseTranslator(1, 2);
        x.emit(Checks.SET, 1, 0, 10);
        x.emit(Checks.SET, 2, 0, 20);
        x.drop();
        Checks.due("run into the dropped", x.run(9), PreciseTranslator.NO_CODE);
        Checks.due("dropped not done", x.reg(2), 0);
        Checks.due("first done", x.reg(1), 10);
        Checks.due("emit in its place", x.emit(Checks.SET, 3, 0, 30), 1);
        Checks.due("run on", x.run(9), PreciseTranslator.NO_CODE);
        Checks.due("new one done", x.reg(3), 30);
        Checks.due("old one not done", x.reg(2), 0);

        x.jump(0);
        x.run(9);
        x.drop();
        x.emit(Checks.HALT, 0, 0, 0);
        x.jump(0);
        Checks.due("replaced after it ran", x.run(9), PreciseTranslator.HALTED);
        Checks.due("pc at the new halt", x.pc(), 1);
    }

    private static void programChangesLeaveMachine() {
        PreciseTranslator x = new PreciseTranslator(4, 2);
        x.setReg(1, 100);
        x.setFlags(15);
        x.poke(3, 9);
        x.emit(Checks.SET, 2, 0, 1);
        x.emit(Checks.LOAD, 2, 1, 0);
        x.run(9);
        String before = Checks.seen(x);
        x.emit(Checks.HALT, 0, 0, 0);
        Checks.same("emit", Checks.seen(x), before);
        x.emit(13, 0, 0, 0);
        Checks.same("bad emit", Checks.seen(x), before);
        x.drop();
        x.drop();
        Checks.same("drop", Checks.seen(x), before);
        Checks.due("pc stays behind the program", x.run(1), PreciseTranslator.NO_CODE);
    }
}
