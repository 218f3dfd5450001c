/** Promises 27, 28, 30 and 32: values, sizes of holders, what is made, and values found anew. */
public final class ValuesTest extends TestBase {
    private static final int NO = Cascadery.INVALID;

    private ValuesTest() {
        super("ValuesTest");
    }

    public static void main(String[] args) {
        ValuesTest test = new ValuesTest();
        test.wrongQuestions();
        test.units();
        test.unitsOfTop();
        test.bounds();
        test.defaults();
        test.variables();
        test.circles();
        test.variablesForOthers();
        test.holders();
        test.autoHolders();
        test.freeChildren();
        test.staleHolder();
        test.made();
        test.anew();
        test.check.end();
    }

    private void wrongQuestions() {
        Cascadery x = chain(1);
        x.make(0);
        for (int wrong : new int[] {-1, 3, Integer.MIN_VALUE, Integer.MAX_VALUE}) {
            check.bounds("value " + wrong, () -> x.value(wrong, 99));
            check.bounds("valueAnew " + wrong, () -> x.valueAnew(wrong, 99));
            check.bounds("size " + wrong, () -> x.size(wrong));
            check.bounds("made " + wrong, () -> x.made(wrong));
            check.argument("value of " + wrong, () -> x.value(2, wrong == 3 ? 15 : wrong));
            check.argument("valueAnew of " + wrong, () -> x.valueAnew(2, wrong == 3 ? 15 : wrong));
        }
        check.state("value out of the document", () -> x.value(2, 0));
        check.state("valueAnew out of the document", () -> x.valueAnew(2, 0));
        check.state("size out of the document", () -> x.size(2));
        check.state("made out of the document", () -> x.made(2));
        check.due("none of these flushed", x.flushes(), 0);
    }

    private void units() {
        Cascadery x = chain(2);
        own(x, 0, SIZE, PX, 10);
        own(x, 1, SIZE, PX, 30);
        own(x, 1, SPAN, PX, 70);
        int[][] rows = {{SIZE, PX, 33, 33}, {SIZE, EM, 250, 75}, {SIZE, TOP, 250, 25}, {SIZE, PERCENT, 50, 15},
            {SIZE, HELD, 5, 50}, {SIZE, PX, 40, 40}, {SPAN, PX, -7, -7}, {SPAN, EM, 50, 20}, {SPAN, TOP, 50, 5},
            {SPAN, PERCENT, 50, 35}, {SPAN, HELD, 50, 500}, {SPAN, AUTO, 5, Cascadery.AUTO_VALUE}, {GAP, PX, 1, 1},
            {GAP, EM, 33, 13}, {GAP, EM, -33, -13}, {EDGE, TOP, 199, 19}, {EDGE, TOP, -199, -19}, {EDGE, HELD, 1, 10},
            {TINT, PLAIN, -9999, -9999}, {STEP, PLAIN, 4, 4}};
        for (int[] row : rows) {
            own(x, 2, row[0], row[1], row[2]);
            check.due("property " + row[0] + " by unit " + row[1], x.value(2, row[0]), row[3]);
        }
        own(x, 2, SPAN, PERCENT, 50);
        own(x, 1, SPAN, AUTO, 0);
        check.due("PERCENT of AUTO", x.value(2, SPAN), Cascadery.AUTO_VALUE);
    }

    private void unitsOfTop() {
        Cascadery x = new Cascadery();
        int[][] rows = {{SIZE, EM, 200, 32}, {SIZE, TOP, 300, 48}, {SIZE, PERCENT, 50, 8}, {SIZE, HELD, 2, 20},
            {SPAN, PERCENT, 50, 500}, {SPAN, EM, 50, 10}, {GAP, TOP, 100, 20}, {EDGE, HELD, 1, 10}};
        for (int[] row : rows) {
            own(x, 0, row[0], row[1], row[2]);
            check.due("of 0, property " + row[0] + " by unit " + row[1], x.value(0, row[0]), row[3]);
        }
        own(x, 0, SIZE, UNSET, 0);
        check.due("the initial SIZE", x.value(0, SIZE), 16);
        own(x, 0, HOLDS, PLAIN, 1);
        check.due("0 does not hold itself", x.value(0, EDGE), 10);
    }

    private void bounds() {
        Cascadery x = chain(2);
        own(x, 0, SIZE, PX, 9999);
        own(x, 1, SIZE, EM, 9999);
        own(x, 1, GAP, EM, -9999);
        own(x, 2, SPAN, EM, 9999);
        own(x, 2, SIZE, EM, 9999);
        own(x, 2, EDGE, EM, -101);
        check.due("the upper bound", x.value(1, SIZE), 100000);
        check.due("the lower bound", x.value(1, GAP), -100000);
        check.due("from bound to bound", x.value(2, SIZE), 100000);
        check.due("the lower bound again", x.value(2, EDGE), -100000);
        own(x, 2, EDGE, EM, -100);
        check.due("just the bound", x.value(2, EDGE), -100000);
    }

    private void defaults() {
        Cascadery x = chain(2);
        int[] initial = {0, 16, Cascadery.AUTO_VALUE, 0, 0, 1, 0, 0, -1, 0, 0, -1};
        for (int p = 0; p < 12; p++) {
            boolean isLength = p >= SIZE && p <= EDGE;
            own(x, 1, p, isLength ? PX : PLAIN, 5);
            check.due("inherited or not: " + p, x.value(2, p), p == TINT || p == SIZE ? 5 : initial[p]);
            own(x, 2, p, INHERIT, 0);
            check.due("INHERIT of " + p, x.value(2, p), 5);
            own(x, 2, p, INITIAL, 0);
            check.due("INITIAL of " + p, x.value(2, p), initial[p]);
            own(x, 2, p, UNSET, 0);
            check.due("UNSET of " + p, x.value(2, p), p == TINT || p == SIZE ? 5 : initial[p]);
            own(x, 2, p, Cascadery.REVERT, 0);
            check.due("REVERT of " + p, x.value(2, p), p == TINT || p == SIZE ? 5 : initial[p]);
            own(x, 0, p, INHERIT, 0);
            check.due("INHERIT of 0 for " + p, x.value(0, p), initial[p]);
        }
    }

    private void variables() {
        Cascadery x = chain(2);
        own(x, 0, 12, EM, 150);
        check.due("inherited with the unit", x.value(2, 12), 200150);
        own(x, 1, 12, AUTO, 77);
        check.due("AUTO with 0", x.value(2, 12), 600000);
        own(x, 1, 12, PLAIN, -5);
        check.due("PLAIN below 0", x.value(2, 12), -5);
        own(x, 1, 12, HELD, -9999);
        check.due("HELD below 0", x.value(2, 12), 490001);
        own(x, 2, 12, INITIAL, 0);
        check.due("INITIAL", x.value(2, 12), NO);
        own(x, 2, 12, INHERIT, 0);
        check.due("INHERIT", x.value(2, 12), 490001);
        own(x, 0, 12, INHERIT, 0);
        check.due("INHERIT of 0", x.value(0, 12), NO);
        own(x, 0, 12, UNSET, 0);
        check.due("UNSET of 0", x.value(0, 12), NO);
        ownVar(x, 2, 13, 12, -1, 0);
        check.due("VAR", x.value(2, 13), 490001);
        ownVar(x, 2, 14, 13, PX, 3);
        check.due("VAR over VAR", x.value(2, 14), 490001);
        own(x, 2, 12, INITIAL, 0);
        check.due("VAR without a value", x.value(2, 13), NO);
        check.due("the second value", x.value(2, 14), 100003);
        ownVar(x, 2, 13, 12, AUTO, 9);
        check.due("a second AUTO", x.value(2, 14), 600000);
        ownVar(x, 1, 14, 12, -1, 9);
        check.due("of the same element", x.value(1, 14), 490001);
    }

    private void circles() {
        Cascadery x = chain(1);
        own(x, 0, 12, PX, 1);
        own(x, 0, 13, PX, 2);
        own(x, 0, 14, PX, 3);
        ownVar(x, 1, 12, 12, PX, 9);
        check.due("itself", x.value(1, 12), NO);
        ownVar(x, 1, 12, 13, PX, 9);
        ownVar(x, 1, 13, 12, PX, 8);
        check.due("a circle of two", x.value(1, 12) == NO && x.value(1, 13) == NO, true);
        check.due("not the third", x.value(1, 14), 100003);
        ownVar(x, 1, 14, 12, EM, 7);
        check.due("what leads to a circle has its second value", x.value(1, 14), 200007);
        ownVar(x, 1, 14, 13, -1, 0);
        check.due("or none", x.value(1, 14), NO);
        ownVar(x, 1, 13, 14, PX, 8);
        check.due("not a circle of two any more", x.value(1, 14), NO);
        ownVar(x, 1, 14, 12, PX, 6);
        check.due("a circle of three", x.value(1, 12) == NO && x.value(1, 13) == NO && x.value(1, 14) == NO, true);
        own(x, 1, 14, Cascadery.REVERT, 0);
        check.due("REVERT breaks it", x.value(1, 12), 100003);
        check.due("anew, too", x.valueAnew(1, 13), 100003);
        ownVar(x, 1, 13, 13, PX, 8);
        check.due("what leads to one that needs itself", x.value(1, 12), 100009);
    }

    private void variablesForOthers() {
        Cascadery x = chain(1);
        own(x, 0, SIZE, PX, 20);
        own(x, 1, SIZE, PX, 40);
        own(x, 0, 12, EM, 50);
        ownVar(x, 1, GAP, 12, PX, 3);
        check.due("by the units of the property", x.value(1, GAP), 20);
        ownVar(x, 1, SIZE, 12, PX, 3);
        check.due("SIZE by the SIZE above", x.value(1, SIZE), 10);
        ownVar(x, 1, TINT, 12, PLAIN, 3);
        own(x, 0, TINT, PLAIN, 77);
        check.due("a unit that does not suit: UNSET", x.value(1, TINT), 77);
        ownVar(x, 1, STEP, 12, PLAIN, 3);
        check.due("UNSET is initial for others", x.value(1, STEP), 0);
        ownVar(x, 1, SPAN, 13, PERCENT, 50);
        own(x, 0, SPAN, PX, 90);
        check.due("the second value", x.value(1, SPAN), 45);
        ownVar(x, 1, SPAN, 13, PLAIN, 50);
        check.due("a second unit that does not suit", x.value(1, SPAN), Cascadery.AUTO_VALUE);
        ownVar(x, 1, SIZE, 13, -1, 50);
        check.due("none at all", x.value(1, SIZE), 20);
        own(x, 0, 13, AUTO, 0);
        check.due("AUTO suits SPAN", x.value(1, SPAN), Cascadery.AUTO_VALUE);
        check.due("not SIZE", x.value(1, SIZE), 20);
        own(x, 0, 13, PERCENT, 10);
        ownVar(x, 1, GAP, 13, PX, 3);
        check.due("PERCENT does not suit GAP", x.value(1, GAP), 0);
    }

    private void holders() {
        Cascadery x = chain(3);
        own(x, 3, GAP, HELD, 10);
        check.due("no holder", x.size(1), -1);
        check.due("HELD by the window", x.value(3, GAP), 100);
        own(x, 1, HOLDS, PLAIN, 1);
        own(x, 1, SPAN, PX, 50);
        check.due("the size", x.size(1), 50);
        check.due("HELD by the holder", x.value(3, GAP), 5);
        own(x, 2, HOLDS, PLAIN, 2);
        own(x, 2, SPAN, PX, -70);
        check.due("a size below 0", x.size(2), -70);
        check.due("HELD by the nearest", x.value(3, GAP), -7);
        own(x, 2, HOLDS, PLAIN, 0);
        check.due("not above 0", x.size(2), -1);
        check.due("HELD by the one above", x.value(3, GAP), 5);
        own(x, 3, HOLDS, PLAIN, 1);
        check.due("not by itself", x.value(3, GAP), 5);
        check.due("an AUTO one without children", x.size(3), 0);
    }

    private void autoHolders() {
        Cascadery x = chain(1);
        for (int e = 2; e <= 4; e++) {
            x.make(e);
            x.put(e, 1, e - 2);
        }
        own(x, 1, HOLDS, PLAIN, 1);
        own(x, 2, SPAN, PX, 100);
        own(x, 2, GAP, PX, 7);
        own(x, 3, GAP, PX, -2);
        own(x, 4, SPAN, EM, 100);
        check.due("the sum", x.size(1), 100 + 14 - 4 + 16);
        own(x, 4, SPAN, PERCENT, 100);
        check.due("PERCENT of AUTO is 0", x.size(1), 110);
        own(x, 4, EDGE, HELD, 10);
        check.due("HELD by the sum", x.value(4, EDGE), 11);
        own(x, 4, GAP, HELD, 1);
        check.due("HELD by the window for the sum", x.size(1), 130);
        check.due("but not in the end", x.value(4, GAP), 1);
        own(x, 3, SPAN, PX, 900);
        check.due("all below follow", x.value(4, EDGE), 103);
        own(x, 4, SIZE, HELD, 10);
        own(x, 4, SPAN, EM, 100);
        check.due("for SIZE, too", x.size(1), 100 + 14 + 900 - 4 + 100 + 20);
        x.shadow(1);
        check.due("what is shown counts", x.size(1), 1130);
        x.make(7);
        x.putTop(5, 1, 0);
        own(x, 5, SPAN, PX, 3);
        check.due("the slot alone", x.size(1), 3);
        own(x, 5, HOLDS, PLAIN, 1);
        check.due("its own span", x.size(5), 3);
        own(x, 5, SPAN, AUTO, 3);
        check.due("the slot holds what it is assigned", x.size(5), 1130);
    }

    /** Conditions about the holder do not hold for what would come to its shown children. */
    private void freeChildren() {
        Cascadery x = chain(2);
        own(x, 1, HOLDS, PLAIN, 1);
        x.test(Cascadery.KIND, 1, 0);
        x.select();
        x.sheet(Cascadery.AUTHOR, -1, -1);
        x.rule(0, 0);
        x.rule(0, 0);
        x.rule(0, 0);
        x.declare(0, GAP, PX, 5, false);
        x.declare(1, GAP, PX, 50, false);
        x.when(1, Cascadery.ROOMY, 10);
        check.due("without ROOMY", x.size(1), 10);
        check.due("with ROOMY", x.value(2, GAP), 50);
        x.when(1, Cascadery.TIGHT, 10);
        check.due("without TIGHT", x.size(1), 10);
        check.due("with TIGHT", x.value(2, GAP), 50);
        x.declare(2, 12, PX, 70, false);
        x.when(2, Cascadery.ROOMY, 0);
        ownVar(x, 2, SPAN, 12, PX, 30);
        check.due("for variables, too", x.size(1), 40);
        check.due("with the variable", x.value(2, SPAN), 70);
        check.due("anew", x.valueAnew(2, SPAN) + x.valueAnew(2, GAP), 75);
        check.due("by the holder", x.why(2, GAP, 1), 7);
        x.when(1, Cascadery.WIDE, 1000);
        check.due("other conditions count", x.size(1), 130);
    }

    /** A shown child of a holder was taken out, and nothing is marked: all stays, but not anew. */
    private void staleHolder() {
        Cascadery x = chain(1);
        for (int e = 2; e <= 3; e++) {
            x.make(1);
            x.put(e, 1, e - 2);
            own(x, e, SPAN, PX, 100 * e);
        }
        own(x, 1, HOLDS, PLAIN, 1);
        own(x, 2, GAP, HELD, 10);
        x.select();
        x.sheet(0, -1, -1);
        x.rule(0, 0);
        x.declare(0, TINT, PLAIN, 1, false);
        x.when(0, Cascadery.ROOMY, 700);
        check.due("why", x.why(2, TINT, 0), 0);
        check.due("the size of both", x.size(1), 700);
        check.due("HELD by it", x.value(2, GAP), 70);
        int flushes = x.flushes();
        x.take(3);
        check.due("nothing is marked", x.marked(), 0);
        check.due("the value stays", x.value(2, GAP), 70);
        check.due("so does the size", x.size(1), 700);
        check.due("why goes by it", x.why(2, TINT, 0), 0);
        check.due("no flush", x.flushes(), flushes);
        check.due("anew it is another one", x.valueAnew(2, GAP), 40);
        own(x, 0, TINT, PLAIN, 0);
        check.due("with the next flush", x.value(2, GAP), 40);
        check.due("why with it", x.why(2, TINT, 0), 7);
    }

    private void made() {
        Cascadery x = chain(2);
        x.make(1);
        x.put(3, 0, 1);
        check.due("none is made", x.made(0), -1);
        for (int e = 0; e <= 3; e++) {
            own(x, e, MADE, PLAIN, 1);
            own(x, e, STEP, PLAIN, 1 + 10 * e);
        }
        check.due("0 first", x.made(0), 1);
        check.due("then 1", x.made(1), 12);
        check.due("then 2 below it", x.made(2), 33);
        check.due("then 3", x.made(3), 64);
        own(x, 1, RESET, PLAIN, 0);
        check.due("RESET of 0, and then STEP", x.made(1), 11);
        own(x, 1, RESET, PLAIN, -1);
        check.due("RESET below 0 does not count", x.made(1), 12);
        own(x, 1, MADE, PLAIN, 0);
        check.due("not made", x.made(1), -1);
        check.due("but counted", x.made(2), 33);
        own(x, 1, SHOWN, PLAIN, 0);
        check.due("left out", x.made(1), -1);
        check.due("below it, too", x.made(2), -1);
        check.due("behind it", x.made(3), 32);
        own(x, 1, SHOWN, PLAIN, -1);
        check.due("only 0 leaves out", x.made(3), 64);
        own(x, 0, SHOWN, PLAIN, 0);
        check.due("all is left out", x.made(3), -1);
    }

    private void anew() {
        Cascadery y = chain(3);
        own(y, 1, HOLDS, PLAIN, 1);
        own(y, 1, SPAN, PX, 40);
        own(y, 2, HOLDS, PLAIN, 1);
        own(y, 2, GAP, HELD, 50);
        own(y, 3, GAP, HELD, 50);
        own(y, 3, SPAN, PX, -2000);
        check.due("by the size of the holder anew", y.valueAnew(2, GAP), 20);
        check.due("by the sum of the holder anew", y.valueAnew(3, GAP), -500);
        Cascadery x = chain(2);
        own(x, 1, TINT, PLAIN, 7);
        check.due("without flushing", x.valueAnew(2, TINT), 7);
        check.due("no flush", x.flushes(), 0);
        check.due("still marked", x.marked(), 6);
        x.listen(1, TINT, 2, 0);
        check.due("read", x.value(2, TINT), 7);
        own(x, 1, TINT, PLAIN, 8);
        check.due("as it will be", x.valueAnew(2, TINT), 8);
        check.due("the listener was not told", x.setClass(2, 0, false), false);
        check.due("AUTO", x.valueAnew(2, SPAN), Cascadery.AUTO_VALUE);
        check.due("a variable", x.valueAnew(2, 14), NO);
        own(x, 0, SIZE, PX, 50);
        own(x, 2, SIZE, TOP, 200);
        check.due("by the SIZE of 0 anew", x.valueAnew(2, SIZE), 100);
    }
}
