/** Promises 19 to 26 and 31: sheets, rules, conditions, declarations, and which go ahead of others. */
public final class SheetsTest extends TestBase {
    private SheetsTest() {
        super("SheetsTest");
    }

    public static void main(String[] args) {
        SheetsTest test = new SheetsTest();
        test.sheets();
        test.rules();
        test.conditions();
        test.wrongDeclarations();
        test.units();
        test.counts();
        test.ranks();
        test.trees();
        test.layers();
        test.weightsAndOrder();
        test.own();
        test.reverts();
        test.barriers();
        test.check.end();
    }

    /** A document with the children 1 and 2 of 0, and the selector 0 that all elements match. */
    private static Cascadery small() {
        Cascadery x = new Cascadery();
        x.make(1);
        x.make(2);
        x.put(1, 0, 0);
        x.put(2, 0, 1);
        x.select();
        return x;
    }

    private void sheets() {
        Cascadery x = small();
        x.shadow(2);
        for (int wrong : new int[] {-1, 3, LEAST, MOST}) {
            check.argument("origin " + wrong, () -> x.sheet(wrong, -1, -1));
            check.argument("layer " + wrong, () -> x.sheet(0, -1, wrong == -1 ? -2 : wrong == 3 ? 4 : wrong));
            check.bounds("tree " + wrong, () -> x.sheet(0, wrong == -1 ? -2 : wrong, -1));
            check.bounds("turn " + wrong, () -> x.turn(wrong, true));
        }
        check.bounds("no shadow tree", () -> x.sheet(0, 1, -1));
        check.argument("the origin goes ahead of the tree", () -> x.sheet(3, 1, -1));
        check.argument("the layer does, too", () -> x.sheet(0, 1, 4));
        for (int i = 0; i < 8; i++) {
            check.due("sheet", x.sheet(i % 3, i % 2 == 0 ? -1 : 2, i % 5 - 1), i);
        }
        check.state("a ninth", () -> x.sheet(0, -1, -1));
        check.bounds("a ninth without a tree", () -> x.sheet(0, 1, -1));
        check.due("on at first", x.turn(7, false), true);
        check.due("off", x.turn(7, false), false);
        check.due("still off", x.turn(7, true), false);
        check.due("on again", x.turn(7, true), true);
        check.bounds("behind the last one", () -> x.turn(8, true));
    }

    private void rules() {
        Cascadery x = small();
        check.bounds("no sheet", () -> x.rule(0, 0));
        x.sheet(0, -1, -1);
        check.bounds("no selector", () -> x.rule(0, 1));
        check.bounds("a negative selector", () -> x.rule(0, -1));
        check.bounds("a negative sheet", () -> x.rule(-1, 0));
        for (int i = 0; i < 40; i++) {
            check.due("rule", x.rule(0, 0), i);
        }
        check.state("the 41st", () -> x.rule(0, 0));
        check.bounds("the 41st of no sheet", () -> x.rule(1, 0));
        check.due("the last one counts", x.declare(39, TINT, PLAIN, 4, false) + x.value(1, TINT), 5);
    }

    private void conditions() {
        Cascadery x = small();
        x.sheet(AUTHOR, -1, -1);
        x.rule(0, 0);
        x.declare(0, TINT, PLAIN, 5, false);
        for (int wrong : new int[] {-1, 1, 100, LEAST, MOST}) {
            check.bounds("when " + wrong, () -> x.when(wrong, 0, 0));
        }
        for (int wrong : new int[] {-2, 5, LEAST, MOST}) {
            check.argument("condition " + wrong, () -> x.when(0, wrong, 0));
        }
        for (int wrong : new int[] {-10000, 10000, LEAST, MOST}) {
            check.argument("number " + wrong, () -> x.when(0, 0, wrong));
            check.argument("number without a condition " + wrong, () -> x.when(0, -1, wrong));
        }
        int[][] rows = {{0, 1000, 5}, {0, 1001, 0}, {1, 1000, 5}, {1, 999, 0}, {2, -9999, 0}, {3, 9999, 0}, {4, 0, 5},
            {4, 14, 5}, {4, 15, 0}, {4, -1, 0}, {-1, 9999, 5}};
        for (int[] row : rows) {
            x.when(0, row[0], row[1]);
            check.due("condition " + row[0] + " " + row[1], x.value(2, TINT), row[2]);
            check.due("why " + row[0] + " " + row[1], x.why(2, TINT, 0), row[2] == 0 ? 7 : 0);
        }
        for (int wrong : new int[] {-1, 10000, LEAST, MOST}) {
            check.argument("width " + wrong, () -> x.setWidth(wrong));
        }
        x.when(0, Cascadery.WIDE, 9999);
        check.due("the width before", x.setWidth(9999), 1000);
        check.due("wide now", x.value(1, TINT), 5);
        check.due("the width before that", x.setWidth(0), 9999);
        check.due("not wide now", x.value(1, TINT), 0);
        x.declare(100, Cascadery.HOLDS, PLAIN, 1, false);
        x.declare(100, Cascadery.SPAN, PX, 300, false);
        int[][] held = {{2, 300, 5}, {2, 301, 0}, {3, 300, 5}, {3, 299, 0}};
        for (int[] row : held) {
            x.when(0, row[0], row[1]);
            check.due("held " + row[0] + " " + row[1], x.value(1, TINT), row[2]);
            check.due("but not 0", x.why(0, TINT, 0), 7);
        }
    }

    private void wrongDeclarations() {
        Cascadery x = small();
        x.sheet(AUTHOR, -1, -1);
        x.rule(0, 0);
        for (int wrong : new int[] {-1, 1, 40, 99, 103, 130, LEAST, MOST}) {
            check.bounds("declare in " + wrong, () -> x.declare(wrong, 99, 99, 0, false));
            check.bounds("declareVar in " + wrong, () -> x.declareVar(wrong, 0, 12, -1, 0, false));
            check.bounds("undeclare in " + wrong, () -> x.undeclare(wrong, 99));
        }
        for (int wrong : new int[] {-1, 16, LEAST, MOST}) {
            check.argument("property " + wrong, () -> x.declare(0, wrong, REVERT, 0, false));
            check.argument("property of VAR " + wrong, () -> x.declareVar(0, wrong, 12, -1, 0, false));
            check.argument("property of none " + wrong, () -> x.undeclare(0, wrong));
            check.argument("unit " + wrong, () -> x.declare(0, 12, wrong == 16 ? 11 : wrong, 0, false));
            check.argument("second unit " + wrong, () -> x.declareVar(0, 0, 12, wrong == -1 ? 7 : wrong, 0, false));
            check.argument("variable " + wrong, () -> x.declareVar(0, 0, wrong == -1 ? 11 : wrong == 16 ? 15 : wrong, -1, 0, false));
        }
        check.argument("second unit -2", () -> x.declareVar(0, 0, 12, -2, 0, false));
        for (int wrong : new int[] {-10000, 10000, LEAST, MOST}) {
            for (int unit = 0; unit <= 10; unit++) {
                int u = unit;
                if (unit < Cascadery.AUTO) {
                    check.argument("number " + wrong + " of " + u, () -> x.declare(0, 12, u, wrong, false));
                } else {
                    check.due("a number that does not matter", x.declare(0, 12, u, wrong, false), 1);
                }
            }
            check.argument("second number " + wrong, () -> x.declareVar(0, 0, 12, -1, wrong, false));
        }
        check.due("the greatest numbers", x.declare(0, 13, 5, 9999, true) + x.declare(0, 14, 0, -9999, true), 5);
    }

    private void units() {
        Cascadery x = small();
        // by property, whether PLAIN, PX, EM, TOP, PERCENT, HELD and AUTO suit it
        String[] suits = {"ynnnnnn", "nyyyyyn", "nyyyyyy", "nyyynyn", "nyyynyn", "ynnnnnn", "ynnnnnn", "ynnnnnn", "ynnnnnn",
            "ynnnnnn", "ynnnnnn", "ynnnnnn", "yyyyyyy", "yyyyyyy", "yyyyyyy", "nyyynyn"};
        for (int p = 0; p <= 15; p++) {
            for (int unit = 0; unit <= 10; unit++) {
                int property = p;
                int u = unit;
                if (unit > 6 || suits[p].charAt(unit) == 'y') {
                    check.due("the unit " + u + " suits " + p, x.declare(101, property, u, 1, false) > 0, true);
                } else {
                    check.argument("the unit " + u + " does not suit " + p, () -> x.declare(101, property, u, 1, false));
                }
            }
        }
    }

    private void counts() {
        Cascadery x = small();
        check.due("one", x.declare(101, TINT, PLAIN, 1, false), 1);
        check.due("in place of that", x.declare(101, TINT, PLAIN, 2, true), 1);
        check.due("GAP", x.declare(101, GAP, PX, 2, false), 2);
        check.due("GAP and EDGE", x.declare(101, 15, PX, 3, false), 3);
        check.due("both are declared", x.value(1, GAP) * 10 + x.value(1, Cascadery.EDGE), 33);
        check.due("VAR in place of it", x.declareVar(101, TINT, 12, 0, 6, false), 3);
        check.due("its second value", x.value(1, TINT), 6);
        check.due("VAR for both", x.declareVar(101, 15, 12, PX, 9, false), 3);
        check.due("both", x.value(1, GAP) * 10 + x.value(1, Cascadery.EDGE), 99);
        check.due("not VAR any more", x.declare(101, TINT, PLAIN, 2, false), 3);
        check.due("the plain number", x.value(1, TINT), 2);
        check.due("of another element", x.declare(102, 14, PX, 2, false), 1);
        check.due("none to take away", x.undeclare(101, 7), 3);
        check.due("EDGE is taken away", x.undeclare(101, Cascadery.EDGE), 2);
        check.due("both, of which one is there", x.undeclare(101, 15), 1);
        check.due("the last one", x.undeclare(101, TINT), 0);
        check.due("the value is gone", x.value(1, TINT) + x.value(1, GAP), 0);
    }

    private void ranks() {
        Cascadery x = small();
        x.sheet(AUTHOR, -1, -1);
        x.sheet(USER, -1, -1);
        x.sheet(AGENT, -1, -1);
        for (int i = 0; i < 6; i++) {
            x.rule(i % 3, 0);
            x.declare(i, TINT, PLAIN, i + 1, i >= 3);
        }
        // from the highest rank to the lowest
        int[] order = {5, 4, 3, 0, 1, 2};
        for (int i = 0; i < order.length; i++) {
            check.due("the best of the rest", x.value(1, TINT), order[i] + 1);
            for (int j = i; j < order.length; j++) {
                check.due("why " + order[j], x.why(1, TINT, order[j]), j == i ? 0 : 1);
            }
            x.undeclare(order[i], TINT);
        }
        check.due("without any", x.value(1, TINT), 0);
    }

    private void trees() {
        Cascadery x = small();
        x.shadow(1);
        x.make(3);
        x.putTop(3, 1, 0);
        x.setPart(3, 0);
        x.test(Cascadery.PART, 0, 0);
        x.select();
        x.test(Cascadery.HOST, 0, 0);
        x.select();
        x.sheet(AUTHOR, -1, 0);
        x.sheet(AUTHOR, 1, -1);
        x.rule(0, 1);
        x.rule(1, 0);
        x.rule(0, 0);
        x.rule(1, 2);
        for (int r = 0; r < 4; r++) {
            x.declare(r, TINT, PLAIN, r + 1, false);
        }
        check.due("PART from the lesser depth goes ahead", x.value(3, TINT), 1);
        check.due("by the tree", x.why(3, TINT, 1), 2);
        check.due("the host by the lesser depth", x.value(1, TINT), 3);
        check.due("not by HOST", x.why(1, TINT, 3), 2);
        x.declare(103, TINT, PLAIN, 9, false);
        check.due("own ones are from their tree", x.why(3, TINT, 1) * 10 + x.value(3, TINT), 21);
        x.declare(0, TINT, PLAIN, 1, true);
        x.declare(1, TINT, PLAIN, 2, true);
        check.due("important: the greater depth", x.value(3, TINT), 2);
        check.due("by the tree, too", x.why(3, TINT, 0), 2);
        x.declare(103, TINT, PLAIN, 9, true);
        check.due("own ones by being own", x.why(3, TINT, 1), 3);
        x.declare(2, TINT, PLAIN, 3, true);
        x.declare(3, TINT, PLAIN, 4, true);
        check.due("important HOST goes ahead", x.value(1, TINT), 4);
    }

    private void layers() {
        Cascadery x = small();
        int[] layers = {3, -1, 0, 2};
        for (int i = 0; i < 4; i++) {
            x.sheet(AUTHOR, -1, layers[i]);
            x.rule(i, 0);
            x.declare(i, TINT, PLAIN, i + 1, false);
        }
        int[] order = {1, 0, 3, 2};
        for (int i = 0; i < 4; i++) {
            check.due("without important", x.value(1, TINT), order[i] + 1);
            for (int j = i + 1; j < 4; j++) {
                check.due("by the layer", x.why(1, TINT, order[j]), 4);
            }
            x.undeclare(order[i], TINT);
        }
        for (int i = 0; i < 4; i++) {
            x.declare(i, TINT, PLAIN, i + 1, true);
        }
        for (int i = 3; i >= 0; i--) {
            check.due("important", x.value(1, TINT), order[i] + 1);
            x.undeclare(order[i], TINT);
        }
    }

    private void weightsAndOrder() {
        Cascadery x = small();
        x.test(Cascadery.KIND, 1, 0);
        x.select();
        x.sheet(AUTHOR, -1, -1);
        x.sheet(AUTHOR, -1, -1);
        x.rule(1, 0);
        x.rule(0, 1);
        x.rule(0, 0);
        x.rule(1, 0);
        for (int r = 0; r < 4; r++) {
            x.declare(r, TINT, PLAIN, r + 1, false);
        }
        check.due("the weight", x.value(1, TINT), 2);
        check.due("by the weight", x.why(1, TINT, 3), 5);
        check.due("the rule of the later sheet", x.value(2, TINT), 4);
        check.due("by the order of sheets", x.why(2, TINT, 2), 6);
        check.due("by the order of rules", x.why(2, TINT, 0), 6);
        x.undeclare(3, TINT);
        check.due("the sheet ahead of the rule", x.value(2, TINT), 1);
        check.due("the later rule does not help", x.why(2, TINT, 2), 6);
        x.declare(0, TINT, PLAIN, 1, true);
        x.declare(2, TINT, PLAIN, 3, true);
        check.due("order is the same for important ones", x.value(2, TINT), 1);
        x.declare(1, TINT, PLAIN, 2, true);
        check.due("so is weight", x.value(1, TINT), 2);
    }

    private void own() {
        Cascadery x = small();
        x.sheet(AUTHOR, -1, -1);
        x.sheet(USER, -1, -1);
        x.rule(0, 0);
        x.rule(1, 0);
        x.declare(0, TINT, PLAIN, 1, false);
        x.declare(101, TINT, PLAIN, 2, false);
        check.due("own", x.value(1, TINT), 2);
        check.due("by being own", x.why(1, TINT, 0), 3);
        x.declare(0, TINT, PLAIN, 1, true);
        check.due("important", x.value(1, TINT), 1);
        x.declare(101, TINT, PLAIN, 2, true);
        check.due("important, too", x.value(1, TINT), 2);
        x.declare(1, TINT, PLAIN, 3, true);
        check.due("an important one of the user", x.value(1, TINT), 3);
        check.due("by the rank", x.why(1, TINT, 0), 1);
        check.due("another element", x.value(2, TINT), 3);
    }

    private void reverts() {
        Cascadery x = small();
        x.sheet(AGENT, -1, -1);
        x.sheet(USER, -1, -1);
        x.sheet(AUTHOR, -1, -1);
        for (int i = 0; i < 6; i++) {
            x.rule(i % 3, 0);
        }
        x.declare(0, TINT, PLAIN, 1, false);
        x.declare(1, TINT, PLAIN, 2, false);
        x.declare(2, TINT, PLAIN, 3, false);
        x.declare(101, TINT, REVERT, 0, false);
        check.due("own REVERT leads to the user's", x.value(1, TINT), 2);
        x.declare(4, TINT, REVERT, 0, true);
        check.due("an important REVERT of the user leads to the agent's", x.value(1, TINT), 1);
        check.due("for all", x.value(2, TINT), 1);
        check.due("REVERT does not matter for why", x.why(1, TINT, 4) * 10 + x.why(1, TINT, 0), 1);
        x.declare(3, TINT, PLAIN, 7, true);
        check.due("important ones of the agent count first", x.value(2, TINT), 7);
        x.declare(3, TINT, REVERT, 0, true);
        check.due("the agent's REVERT leads to none", x.value(2, TINT), 0);
        x.declare(3, TINT, PLAIN, 8, false);
        x.declare(4, TINT, PLAIN, 9, true);
        x.declare(5, TINT, REVERT, 0, true);
        check.due("a REVERT that is not first does not matter", x.value(2, TINT), 9);
        x.undeclare(4, TINT);
        x.declare(1, TINT, REVERT, 0, false);
        check.due("REVERT to REVERT", x.value(2, TINT), 8);
        x.declare(4, TINT, PLAIN, 6, true);
        x.declare(3, TINT, REVERT, 0, true);
        x.declare(0, TINT, REVERT, 0, true);
        check.due("none is left", x.value(2, TINT), 0);
    }

    private void barriers() {
        Cascadery x = small();
        x.shadow(2);
        x.make(4);
        x.putTop(3, 2, 0);
        x.test(Cascadery.KIND, 4, 0);
        x.select();
        x.sheet(AUTHOR, 2, -1);
        x.rule(0, 1);
        x.declare(0, TINT, PLAIN, 1, false);
        for (int wrong : new int[] {-1, 1, 100, LEAST, MOST}) {
            check.bounds("why of the rule " + wrong, () -> x.why(1, 99, wrong));
            check.bounds("why of the element " + wrong, () -> x.why(wrong == 1 ? 4 : wrong, 0, 0));
        }
        x.make(0);
        for (int wrong : new int[] {-1, 15, LEAST, MOST}) {
            check.argument("why of the property " + wrong, () -> x.why(4, wrong, 0));
        }
        check.state("why out of the document", () -> x.why(4, 0, 0));
        check.due("0: it goes ahead", x.why(3, TINT, 0), 0);
        check.due("8: no match", x.why(1, TINT, 0), 8);
        x.when(0, Cascadery.NARROW, 0);
        check.due("7: the condition", x.why(3, TINT, 0), 7);
        check.due("8 ahead of 7", x.why(1, TINT, 0), 8);
        x.take(2);
        check.due("9: the tree", x.why(1, TINT, 0), 9);
        x.turn(0, false);
        check.due("10: off", x.why(1, TINT, 0), 10);
        check.due("11: not declared", x.why(1, GAP, 0), 11);
        x.put(2, 0, 0);
        x.when(0, -1, 0);
        check.due("off", x.value(3, TINT), 0);
        x.turn(0, true);
        check.due("on", x.value(3, TINT), 1);
        check.due("it flushes", x.marked(), 0);
        x.undeclare(0, TINT);
        check.due("marked", x.marked(), 15);
        check.due("not there", x.why(3, TINT, 0), 11);
        check.due("why reads", x.marked(), 0);
    }
}
