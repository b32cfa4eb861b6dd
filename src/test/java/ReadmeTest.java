/** The pieces of code of README.md, copied, with the answers that stand beside them there. */
public final class ReadmeTest {
    public static void main(String[] args) {
        PreciseTranslator x = new PreciseTranslator(2, 2);
        Checks.due("setPage", x.setPage(1, 1), 0);
        Checks.due("poke", x.poke(3, 40), 0);
        Checks.due("setReg", x.setReg(7, 1), 0);

        Checks.due("LOAD", x.emit(9, 1, 0, 3), 0);
        Checks.due("ADD", x.emit(1, 2, 1, 7), 1);
        Checks.due("STORE", x.emit(10, 2, 0, 8), 2);
        Checks.due("HALT", x.emit(12, 0, 0, 0), 3);

        Checks.due("first", x.run(1), PreciseTranslator.BUDGET);
        Checks.due("first pc", x.pc(), 1);
        Checks.due("second", x.run(300), PreciseTranslator.NO_WRITE);
        Checks.due("second pc", x.pc(), 2);
        Checks.due("second where", x.where(), 8);
        Checks.due("mending", x.setPage(1, 2), 0);
        Checks.due("third", x.run(300), PreciseTranslator.HALTED);

        Checks.due("sum", x.reg(2), 41);
        Checks.due("stored", x.peek(8), 41);
        Checks.due("flags", x.flags(), 0);
        Checks.due("counter", x.pc(), 3);
        Checks.due("steps", x.steps(), 1);
        Checks.due("where", x.where(), 0);
        Checks.finish();
    }
}
