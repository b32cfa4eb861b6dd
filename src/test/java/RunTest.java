/** Promises 9, 14, 15 and 16: run in slices, why it stops, and what is seen at the stop. */
public final class RunTest {
    public static void main(String[] args) {
        budgets();
        greatestBudgetComesBeforeTheStep();
        budgetComesBeforeTheStep();
        stopsChangeNothing();
        noCodeChangesNothing();
        faultsAreExact();
        slicesGiveTheSameStates();
        whereOnlyForMemoryFaults();
        whereOfAddressZero();
        goesOnAfterMending();
        codeChangedBetweenSlices();
        Checks.finish();
    }

    private static PreciseTranslator endless() {
        PreciseTranslator x = new PreciseTranslator(1, 2);
        x.setReg(7, 1);
        x.emit(Checks.ADD, 1, 1, 7);
        x.emit(Checks.JUMP, 0, 0, 0);
        return x;
    }

    private static void budgets() {
        int[] asked = {0, 1, 2, 299, 300, 301, Checks.MAX, -1, Checks.MIN};
        int[] done = {0, 1, 2, 299, 300, 300, 300, 0, 0};
        for (int i = 0; i < asked.length; i++) {
            PreciseTranslator x = endless();
            Checks.due("run " + asked[i], x.run(asked[i]), PreciseTranslator.BUDGET);
            Checks.due("steps of " + asked[i], x.steps(), done[i]);
            Checks.due("pc of " + asked[i], x.pc(), done[i] % 2);
            Checks.due("sum of " + asked[i], x.reg(1), (done[i] + 1) / 2);
            Checks.due("where of " + asked[i], x.where(), 0);
        }
    }

    /** Does exactly as many steps as asked, 3 or more, before a LOAD that faults with OUTSIDE. */
    private static PreciseTranslator faultsAfter(int steps) {
        PreciseTranslator x = new PreciseTranslator(1, 2);
        x.setReg(7, 1);
        x.setReg(1, steps / 2);
        x.emit(Checks.SUB, 1, 1, 7);
        x.emit(Checks.JUMP, 2, 0, 0);
        if (steps % 2 == 1) {
            x.emit(Checks.SET, 2, 0, 5);
        }
        x.emit(Checks.LOAD, 3, 0, -9);
        return x;
    }

    private static void greatestBudgetComesBeforeTheStep() {
        int[] asked = {300, 301, 302, Checks.MAX};
        for (int budget : asked) {
            String what = "run " + budget + ", fault after ";
            PreciseTranslator x = faultsAfter(299);
            Checks.due(what + 299, x.run(budget), PreciseTranslator.OUTSIDE);
            Checks.due(what + "299, steps", x.steps(), 299);
            Checks.due(what + "299, where", x.where(), -9);
            for (int steps = 300; steps <= 302; steps++) {
                x = faultsAfter(steps);
                Checks.due(what + steps, x.run(budget), PreciseTranslator.BUDGET);
                Checks.due(what + steps + ", steps", x.steps(), 300);
                Checks.due(what + steps + ", where", x.where(), 0);
                Checks.due(what + steps + ", then", x.run(budget), PreciseTranslator.OUTSIDE);
                Checks.due(what + steps + ", then steps", x.steps(), steps - 300);
            }
        }
    }

    private static PreciseTranslator twoStepsThen(int op, int a, int b, int c) {
        PreciseTranslator x = new PreciseTranslator(2, 2);
        x.setPage(1, 0);
        x.emit(Checks.SET, 1, 0, 11);
        x.emit(Checks.SET, 2, 0, 12);
        x.emit(op, a, b, c);
        return x;
    }

    private static void budgetComesBeforeTheStep() {
        stopsAtTheThird(twoStepsThen(Checks.HALT, 0, 0, 0), PreciseTranslator.HALTED, 0);
        stopsAtTheThird(twoStepsThen(Checks.DIV, 1, 1, 3), PreciseTranslator.DIVIDE, 0);
        stopsAtTheThird(twoStepsThen(Checks.LOAD, 1, 0, 16), PreciseTranslator.OUTSIDE, 16);
        stopsAtTheThird(twoStepsThen(Checks.STORE, 1, 0, -1), PreciseTranslator.OUTSIDE, -1);
        stopsAtTheThird(twoStepsThen(Checks.LOAD, 1, 0, 8), PreciseTranslator.NO_READ, 8);
        stopsAtTheThird(twoStepsThen(Checks.STORE, 1, 0, 15), PreciseTranslator.NO_WRITE, 15);
        PreciseTranslator x = twoStepsThen(Checks.HALT, 0, 0, 0);
        x.drop();
        stopsAtTheThird(x, PreciseTranslator.NO_CODE, 0);
    }

    private static void stopsAtTheThird(PreciseTranslator x, int why, int where) {
        String what = "stop " + why + ": ";
        Checks.due(what + "run(2)", x.run(2), PreciseTranslator.BUDGET);
        Checks.due(what + "steps", x.steps(), 2);
        Checks.due(what + "where", x.where(), 0);
        String before = Checks.seen(x).replace("steps 2", "steps 0");
        Checks.due(what + "run(0)", x.run(0), PreciseTranslator.BUDGET);
        Checks.due(what + "run(-1)", x.run(-1), PreciseTranslator.BUDGET);
        Checks.due(what + "run(least)", x.run(Checks.MIN), PreciseTranslator.BUDGET);
        Checks.same(what + "budget 0", Checks.seen(x), before);
        Checks.due(what + "run(1)", x.run(1), why);
        Checks.due(what + "steps", x.steps(), 0);
        Checks.due(what + "where", x.where(), where);
        Checks.due(what + "again", x.run(300), why);
        Checks.due(what + "pc", x.pc(), 2);
        x.jump(0);
        Checks.due(what + "run(3)", x.run(3), why);
        Checks.due(what + "steps", x.steps(), 2);
        Checks.due(what + "where", x.where(), where);
        Checks.due(what + "run(0) clears", x.run(0), PreciseTranslator.BUDGET);
        Checks.due(what + "steps", x.steps(), 0);
        Checks.due(what + "where", x.where(), 0);
    }

    private static void stopsChangeNothing() {
        int[][] last = {
            {Checks.HALT, 1, 2, 3}, {Checks.DIV, 1, 1, 0}, {Checks.LOAD, 1, 0, 32},
            {Checks.STORE, 1, 0, 32}, {Checks.LOAD, 1, 0, 0}, {Checks.STORE, 1, 0, 8}
        };
        int[] why = {
            PreciseTranslator.HALTED, PreciseTranslator.DIVIDE, PreciseTranslator.OUTSIDE,
            PreciseTranslator.OUTSIDE, PreciseTranslator.NO_READ, PreciseTranslator.NO_WRITE
        };
        for (int i = 0; i < last.length; i++) {
            PreciseTranslator x = new PreciseTranslator(4, 2);
            x.setPage(0, 0);
            x.setPage(1, 1);
            for (int index = 1; index < 8; index++) {
                x.setReg(index, 100 + index);
            }
            for (int address = 0; address < 32; address++) {
                x.poke(address, 200 + address);
            }
            x.setFlags(11);
            x.emit(last[i][0], last[i][1], last[i][2], last[i][3]);
            x.run(0);
            String before = stateOf(x);
            Checks.due("stop", x.run(7), why[i]);
            Checks.same("stop " + why[i], stateOf(x), before);
        }
    }

    private static void noCodeChangesNothing() {
        int[] outside = {1, 2, 40, -1, Checks.MIN, Checks.MAX};
        for (int target : outside) {
            PreciseTranslator x = new PreciseTranslator(4, 2);
            for (int index = 0; index < 8; index++) {
                x.setReg(index, 100 + index);
            }
            for (int address = 0; address < 32; address++) {
                x.poke(address, 200 + address);
            }
            x.setFlags(11);
            x.emit(Checks.SET, 1, 0, 5);
            x.jump(target);
            String before = Checks.seen(x);
            Checks.due("no code at " + target, x.run(7), PreciseTranslator.NO_CODE);
            Checks.same("no code at " + target, Checks.seen(x), before);
        }
    }

    private static String stateOf(PreciseTranslator x) {
        String seen = Checks.seen(x);
        return seen.substring(0, seen.indexOf(" steps"));
    }

    private static void faultsAreExact() {
        faultIsExact(Checks.DIV, 3, PreciseTranslator.DIVIDE, 0);
        faultIsExact(Checks.LOAD, 24, PreciseTranslator.OUTSIDE, 24);
        faultIsExact(Checks.STORE, -1, PreciseTranslator.OUTSIDE, -1);
        faultIsExact(Checks.LOAD, 8, PreciseTranslator.NO_READ, 8);
        faultIsExact(Checks.STORE, 16, PreciseTranslator.NO_WRITE, 16);
        faultIsExact(Checks.STORE, 15, PreciseTranslator.NO_WRITE, 15);
    }

    /** The faulting instruction stands between others, each of which would be seen. */
    private static void faultIsExact(int op, int c, int why, int where) {
        String what = "fault " + why + " of op " + op + ": ";
        PreciseTranslator x = new PreciseTranslator(3, 2);
        x.setPage(1, 0);
        x.setPage(2, 1);
        x.setReg(1, Checks.MAX);
        x.setReg(2, 1);
        x.poke(8, 81);
        x.poke(15, 82);
        x.poke(16, 83);
        x.emit(Checks.ADD, 4, 1, 2);
        x.emit(Checks.STORE, 4, 0, 2);
        x.emit(op, 4, 0, c);
        x.emit(Checks.SET, 5, 0, 9);
        x.emit(Checks.XOR, 6, 1, 1);
        x.emit(Checks.STORE, 2, 0, 3);
        Checks.due(what + "run", x.run(300), why);
        Checks.due(what + "steps before", x.steps(), 2);
        Checks.due(what + "result before", x.reg(4), Checks.MIN);
        Checks.due(what + "flags before", x.flags(), Checks.N + Checks.V);
        Checks.due(what + "store before", x.peek(2), Checks.MIN);
        Checks.due(what + "cell 8", x.peek(8), 81);
        Checks.due(what + "cell 15", x.peek(15), 82);
        Checks.due(what + "cell 16", x.peek(16), 83);
        Checks.due(what + "nothing after", x.reg(5), 0);
        Checks.due(what + "no store after", x.peek(3), 0);
        Checks.due(what + "pc at the fault", x.pc(), 2);
        Checks.due(what + "where", x.where(), where);
    }

    /** Counts down from 20, storing every number and adding them up. */
    private static PreciseTranslator loop() {
        PreciseTranslator x = new PreciseTranslator(4, 2);
        x.setReg(7, 1);
        x.emit(Checks.SET, 1, 0, 20);
        x.emit(Checks.ADD, 2, 2, 1);
        x.emit(Checks.STORE, 2, 1, 3);
        x.emit(Checks.LOAD, 4, 1, 3);
        x.emit(Checks.SUB, 1, 1, 7);
        x.emit(Checks.JUMP, 2, 0, 1);
        x.emit(Checks.HALT, 0, 0, 0);
        return x;
    }

    private static void slicesGiveTheSameStates() {
        PreciseTranslator whole = loop();
        Checks.due("whole", whole.run(300), PreciseTranslator.HALTED);
        Checks.due("whole steps", whole.steps(), 101);
        Checks.due("whole sum", whole.reg(2), 210);
        for (int slice = 1; slice <= 110; slice++) {
            int most = 101 / slice + 1;
            for (int count = 1; count <= most; count++) {
                slicesGiveTheSameState(slice, count, count == most);
            }
        }
    }

    // A new object each time: looking at the whole state after every slice of one object would
    // take more than the 512 calls that are promised.
    private static void slicesGiveTheSameState(int slice, int count, boolean ends) {
        String what = count + " slices of " + slice;
        PreciseTranslator x = loop();
        int steps = 0;
        int why = PreciseTranslator.BUDGET;
        for (int i = 0; i < count; i++) {
            why = x.run(slice);
            steps += x.steps();
        }
        PreciseTranslator once = loop();
        once.run(slice * count);
        Checks.due(what, why, ends ? PreciseTranslator.HALTED : PreciseTranslator.BUDGET);
        Checks.due(what, steps, ends ? 101 : slice * count);
        Checks.same(what, stateOf(x), stateOf(once));
    }

    private static void whereOnlyForMemoryFaults() {
        PreciseTranslator x = new PreciseTranslator(1, 2);
        x.emit(Checks.LOAD, 1, 0, -7);
        x.emit(Checks.DIV, 1, 0, 0);
        x.emit(Checks.HALT, 0, 0, 0);
        int[] targets = {1, 2, 3};
        int[] why = {PreciseTranslator.DIVIDE, PreciseTranslator.HALTED, PreciseTranslator.NO_CODE};
        for (int i = 0; i < targets.length; i++) {
            x.jump(0);
            Checks.due("fault", x.run(1), PreciseTranslator.OUTSIDE);
            Checks.due("fault where", x.where(), -7);
            x.jump(targets[i]);
            Checks.due("then", x.run(1), why[i]);
            Checks.due("then where", x.where(), 0);
        }
    }

    private static void whereOfAddressZero() {
        PreciseTranslator x = new PreciseTranslator(1, 0);
        x.emit(Checks.LOAD, 1, 2, 0);
        x.setReg(2, -6);
        Checks.due("at -6", x.run(1), PreciseTranslator.OUTSIDE);
        Checks.due("where -6", x.where(), -6);
        x.setReg(2, 0);
        Checks.due("at 0", x.run(1), PreciseTranslator.NO_READ);
        Checks.due("where 0", x.where(), 0);
    }

    private static void goesOnAfterMending() {
        PreciseTranslator x = new PreciseTranslator(1, 0);
        x.poke(0, 33);
        x.emit(Checks.LOAD, 1, 0, 0);
        x.emit(Checks.STORE, 1, 0, 1);
        x.emit(Checks.DIV, 2, 1, 3);
        x.emit(Checks.LOAD, 4, 5, 0);
        x.setReg(5, -1);
        Checks.due("no read", x.run(9), PreciseTranslator.NO_READ);
        x.setPage(0, 1);
        Checks.due("no write", x.run(9), PreciseTranslator.NO_WRITE);
        x.setPage(0, 2);
        Checks.due("divide", x.run(9), PreciseTranslator.DIVIDE);
        x.setReg(3, 10);
        Checks.due("outside", x.run(9), PreciseTranslator.OUTSIDE);
        x.setReg(5, 1);
        Checks.due("end", x.run(9), PreciseTranslator.NO_CODE);
        Checks.due("quotient", x.reg(2), 3);
        Checks.due("loaded", x.reg(4), 33);
        x.setPage(0, 0);
        x.jump(3);
        Checks.due("rights taken again", x.run(9), PreciseTranslator.NO_READ);
    }

    private static void codeChangedBetweenSlices() {
        PreciseTranslator x = endless();
        x.run(300);
        x.drop();
        Checks.due("jump dropped", x.run(9), PreciseTranslator.NO_CODE);
        Checks.due("pc behind", x.pc(), 1);
        x.emit(Checks.SET, 1, 0, -4);
        Checks.due("other in its place", x.run(9), PreciseTranslator.NO_CODE);
        Checks.due("it was done", x.reg(1), -4);
        Checks.due("pc behind", x.pc(), 2);
    }
}
