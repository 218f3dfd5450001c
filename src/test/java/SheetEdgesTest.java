/** The edges of promises 19 to 26 and 31, and of what the document says of SHEETS AND RULES. */
public final class SheetEdgesTest extends TestBase {
    private static final int[] UNITS_OF_LENGTHS = {PX, EM, TOP, HELD};

    private SheetEdgesTest() {
        super("SheetEdgesTest");
    }

    public static void main(String[] args) {
        SheetEdgesTest test = new SheetEdgesTest();
        test.eightSheets();
        test.fortyRules();
        test.argumentsOfSheets();
        test.onAtFirst();
        test.argumentsOfRules();
        test.argumentsOfConditions();
        test.wideAndNarrow();
        test.roomyAndTight();
        test.known();
        test.conditionInPlace();
        test.widths();
        test.blocks();
        test.properties();
        test.units();
        test.unitsThatSuit();
        test.numbers();
        test.numbersThatDoNotMatter();
        test.argumentsOfVar();
        test.secondNumbers();
        test.oneForEachProperty();
        test.bothOfFifteen();
        test.undeclared();
        test.inPlaceOfAnother();
        test.ranks();
        test.depths();
        test.ownOnes();
        test.layers();
        test.weights();
        test.order();
        test.whyNot();
        test.argumentsOfWhy();
        test.check.end();
    }

    /** 0 with the child 1, a sheet of the document, and rules of it that all elements match. */
    private static Cascadery withRules(int count) {
        Cascadery x = row(1);
        x.select();
        x.sheet(AUTHOR, NONE, NONE);
        for (int i = 0; i < count; i++) {
            x.rule(0, 0);
        }
        return x;
    }

    /** "Sheets are numbered from 0; at most 8 are made." */
    private void eightSheets() {
        Cascadery x = row(1);
        x.select();
        for (int i = 0; i < 7; i++) {
            check.due("sheet", x.sheet(AUTHOR, NONE, NONE), i);
        }
        check.bounds("not there yet", () -> x.turn(7, true));
        check.due("the last one", x.sheet(AUTHOR, NONE, NONE), 7);
        check.state("one more", () -> x.sheet(AGENT, NONE, 0));
        check.bounds("not there", () -> x.turn(8, true));
        check.due("a rule of the last one", x.rule(7, 0), 0);
        x.declare(0, TINT, PLAIN, 3, false);
        check.due("counts", x.value(1, TINT), 3);
        x.turn(7, false);
        check.due("if it is on", x.value(1, TINT), 0);
        check.state("also when one is off", () -> x.sheet(AGENT, NONE, 0));
    }

    /** "Rules are numbered from 0; at most 40 are made." */
    private void fortyRules() {
        Cascadery x = withRules(0);
        for (int i = 0; i < 39; i++) {
            check.due("rule", x.rule(0, 0), i);
        }
        check.bounds("not there yet", () -> x.declare(39, TINT, PLAIN, 1, false));
        check.due("the last one", x.rule(0, 0), 39);
        check.state("one more", () -> x.rule(0, 0));
        check.bounds("not there", () -> x.declare(40, TINT, PLAIN, 1, false));
        x.declare(38, TINT, PLAIN, 38, false);
        x.declare(39, TINT, PLAIN, 39, false);
        check.due("the last one is the greatest", x.value(1, TINT), 39);
        check.due("ahead of the one before", x.why(1, TINT, 38), 6);
        x.sheet(AUTHOR, NONE, NONE);
        check.state("nor of another sheet", () -> x.rule(1, 0));
    }

    /** "origin: AGENT, USER or AUTHOR"; "layer: 0 to 3, or NONE"; "host: the host of its tree; NONE for the document's" */
    private void argumentsOfSheets() {
        range("the origin", AGENT, AUTHOR, ARGUMENT, origin -> row(1).sheet(origin, NONE, NONE));
        range("the layer", NONE, 3, ARGUMENT, layer -> row(1).sheet(AUTHOR, NONE, layer));
        range("the tree", NONE, 0, BOUNDS, host -> {
            Cascadery x = row(2);
            x.shadow(0);
            x.sheet(AUTHOR, host, NONE);
        });
        Cascadery x = loose(1);
        check.bounds("no shadow tree", () -> x.sheet(AUTHOR, 1, NONE));
        check.argument("and a wrong origin", () -> x.sheet(-1, 1, NONE));
        check.argument("and a wrong layer", () -> x.sheet(AGENT, 1, -2));
        x.shadow(1);
        check.due("in a loose tree", x.sheet(AUTHOR, 1, NONE), 0);
    }

    /** "and it is on, as at first, or off" */
    private void onAtFirst() {
        Cascadery x = withRules(1);
        x.declare(0, TINT, PLAIN, 1, false);
        check.due("it counts at first", x.value(1, TINT), 1);
        check.due("on", x.turn(0, true), true);
        check.due("still", x.turn(0, false), true);
        check.due("off", x.turn(0, false), false);
        check.due("it does not count", x.value(1, TINT), 0);
        check.due("still off", x.turn(0, true), false);
        check.due("on again", x.value(1, TINT), 1);
        range("turn", 0, 1, BOUNDS, sheet -> {
            Cascadery y = withRules(0);
            y.sheet(AGENT, NONE, 0);
            y.turn(sheet, false);
        });
    }

    /** "IndexOutOfBoundsException if there is no such sheet or selector" */
    private void argumentsOfRules() {
        range("a rule of the sheet", 0, 0, BOUNDS, sheet -> withRules(0).rule(sheet, 0));
        range("a rule of the selector", 0, 0, BOUNDS, selector -> withRules(0).rule(0, selector));
        Cascadery x = withRules(1);
        check.due("without declarations", x.undeclare(0, 15), 0);
        x.declare(0, TINT, PLAIN, 1, false);
        check.due("without a condition", x.why(1, TINT, 0), 0);
    }

    /** "condition: WIDE to KNOWN; NONE for no condition"; "number: -9999 to 9999" */
    private void argumentsOfConditions() {
        range("when of", 0, 1, BOUNDS, rule -> withRules(2).when(rule, NONE, 0));
        range("the condition", NONE, KNOWN, ARGUMENT, condition -> withRules(1).when(0, condition, 0));
        for (int condition = NONE; condition <= KNOWN; condition++) {
            int c = condition;
            range("the number of " + c, -9999, 9999, ARGUMENT, number -> withRules(1).when(0, c, number));
        }
        check.bounds("of an element", () -> withRules(1).when(100, WIDE, 0));
    }

    private void checkCondition(Cascadery x, int condition, int number, boolean holds) {
        x.when(0, condition, number);
        String what = "condition " + condition + " with " + number;
        check.due(what, x.value(1, TINT), holds ? 7 : 0);
        check.due("why, " + what, x.why(1, TINT, 0), holds ? 0 : 7);
    }

    /** "WIDE and NARROW, if the window is at least, or at most so wide" */
    private void wideAndNarrow() {
        for (int width : new int[] {0, 1, 1000, 9998, 9999}) {
            Cascadery x = withRules(1);
            x.declare(0, TINT, PLAIN, 7, false);
            x.setWidth(width);
            for (int number : new int[] {-9999, -1, 0, 1, width - 1, width, width + 1, 9999}) {
                if (number <= 9999) {
                    checkCondition(x, WIDE, number, width >= number);
                    checkCondition(x, NARROW, number, width <= number);
                }
            }
        }
    }

    /** "ROOMY and TIGHT, if the element has a holder, and the size of that is at least, or at most so much" */
    private void roomyAndTight() {
        for (int size : new int[] {-9999, -1, 0, 1, 9999}) {
            Cascadery x = withRules(1);
            x.declare(0, TINT, PLAIN, 7, false);
            own(x, 0, TINT, PLAIN, 0);
            own(x, 0, SPAN, PX, size);
            for (int number : new int[] {-9999, size - 1, size, size + 1, 9999}) {
                if (number >= -9999 && number <= 9999) {
                    own(x, 0, HOLDS, PLAIN, 1);
                    checkCondition(x, ROOMY, number, size >= number);
                    checkCondition(x, TIGHT, number, size <= number);
                    own(x, 0, HOLDS, PLAIN, 0);
                    checkCondition(x, ROOMY, number, false);
                    checkCondition(x, TIGHT, number, false);
                }
            }
        }
    }

    /** "KNOWN, if a number is that of a property, 0 to 14" */
    private void known() {
        Cascadery x = withRules(1);
        x.declare(0, TINT, PLAIN, 7, false);
        for (int number : new int[] {-9999, -1, 0, 1, 11, 12, 13, 14, 15, 16, 9999}) {
            checkCondition(x, KNOWN, number, number >= 0 && number <= 14);
        }
    }

    /** "Gives a rule a condition, in place of the one that it has." "NONE for no condition" */
    private void conditionInPlace() {
        Cascadery x = withRules(1);
        x.declare(0, TINT, PLAIN, 7, false);
        checkCondition(x, WIDE, 1001, false);
        checkCondition(x, NARROW, 1001, true);
        checkCondition(x, KNOWN, 15, false);
        checkCondition(x, NONE, -9999, true);
        checkCondition(x, KNOWN, -1, false);
        checkCondition(x, NONE, 9999, true);
    }

    /** "width: 0 to 9999"; "Returns the width before." */
    private void widths() {
        range("setWidth", 0, 9999, ARGUMENT, width -> new Cascadery().setWidth(width));
        Cascadery x = new Cascadery();
        check.due("at first", x.setWidth(0), 1000);
        own(x, 0, SPAN, PERCENT, 100);
        check.due("PERCENT of none", x.value(0, SPAN), 0);
        check.due("none", x.setWidth(9999), 0);
        check.due("PERCENT of the most", x.value(0, SPAN), 9999);
        check.argument("one more", () -> x.setWidth(10000));
        check.due("the most", x.setWidth(1), 9999);
    }

    /** "rule: its number, or 100 plus the number of an element" */
    private void blocks() {
        for (int block : new int[] {-1, 3, 39, 40, 99, 102, 129, 130, 200, LEAST, MOST}) {
            Cascadery x = withRules(3);
            check.bounds("declare in " + block, () -> x.declare(block, TINT, PLAIN, 1, false));
            check.bounds("declareVar in " + block, () -> x.declareVar(block, TINT, 12, NONE, 1, false));
            check.bounds("undeclare in " + block, () -> x.undeclare(block, TINT));
        }
        for (int block : new int[] {0, 2, 100, 101}) {
            Cascadery x = withRules(3);
            check.due("declare in " + block, x.declare(block, TINT, PLAIN, 1, false), 1);
            check.due("declareVar in " + block, x.declareVar(block, TINT, 12, NONE, 1, false), 1);
            check.due("undeclare in " + block, x.undeclare(block, TINT), 0);
        }
        Cascadery x = loose(29);
        check.due("of the last element", x.declare(129, TINT, PLAIN, 1, false), 1);
        check.bounds("of none", () -> x.declare(130, TINT, PLAIN, 1, false));
    }

    /** "property: 0 to 15" */
    private void properties() {
        for (int block : new int[] {0, 101}) {
            range("declare", 0, 15, ARGUMENT, p -> withRules(1).declare(block, p, INITIAL, 0, false));
            range("declareVar", 0, 15, ARGUMENT, p -> withRules(1).declareVar(block, p, 12, NONE, 0, false));
            range("undeclare", 0, 15, ARGUMENT, p -> withRules(1).undeclare(block, p));
        }
    }

    /** "unit: PLAIN to REVERT" */
    private void units() {
        for (int variable = 12; variable <= 14; variable++) {
            int v = variable;
            range("the unit", PLAIN, REVERT, ARGUMENT, unit -> withRules(1).declare(0, v, unit, 0, false));
            range("the own unit", PLAIN, REVERT, ARGUMENT, unit -> withRules(1).declare(101, v, unit, 0, false));
        }
        range("the unit of TINT", INITIAL, REVERT, ARGUMENT, unit -> withRules(1).declare(0, TINT, unit == AUTO ? -1 : unit, 0, false));
    }

    /** "PLAIN suits all properties but SIZE, SPAN, GAP and EDGE; PX, EM, TOP and HELD suit just these; ..." */
    private void unitsThatSuit() {
        for (int p = 0; p <= 15; p++) {
            for (int u = PLAIN; u <= REVERT; u++) {
                Cascadery x = withRules(1);
                int property = p;
                int unit = u;
                if (suits(p, u)) {
                    check.due("the unit " + u + " suits " + p, x.declare(0, property, unit, 1, false), p == 15 ? 2 : 1);
                } else {
                    check.argument("the unit " + u + " does not suit " + p, () -> x.declare(0, property, unit, 1, false));
                    check.due("nothing is declared", x.undeclare(0, TINT), 0);
                }
            }
        }
    }

    /** "number: -9999 to 9999" */
    private void numbers() {
        for (int unit = PLAIN; unit <= HELD; unit++) {
            int u = unit;
            range("the number of " + u, -9999, 9999, ARGUMENT, number -> withRules(1).declare(0, 12, u, number, false));
        }
        for (int unit : UNITS_OF_LENGTHS) {
            range("the number of " + unit, -9999, 9999, ARGUMENT, number -> withRules(1).declare(101, 15, unit, number, true));
        }
        Cascadery x = withRules(1);
        x.declare(0, TINT, PLAIN, 9999, false);
        check.due("the most", x.value(1, TINT), 9999);
        x.declare(0, TINT, PLAIN, -9999, false);
        check.due("the least", x.value(1, TINT), -9999);
    }

    /** "it does not matter for AUTO to REVERT" */
    private void numbersThatDoNotMatter() {
        for (int number : new int[] {LEAST, -10000, 0, 10000, MOST}) {
            Cascadery x = withRules(1);
            for (int unit = AUTO; unit <= REVERT; unit++) {
                check.due("of the unit " + unit, x.declare(0, SPAN, unit, number, false), 1);
                check.due("the value", x.value(1, SPAN), AUTO_VALUE);
            }
            x.declare(0, 12, AUTO, number, false);
            check.due("0 for the unit AUTO", x.value(1, 12), 600000);
        }
    }

    /** "variable: 12 to 14"; "unit: the unit of the second value, PLAIN to AUTO; NONE for no second value" */
    private void argumentsOfVar() {
        for (int property = 0; property <= 15; property++) {
            int p = property;
            range("the variable", 12, 14, ARGUMENT, variable -> withRules(1).declareVar(0, p, variable, NONE, 0, false));
            range("the second unit", NONE, AUTO, ARGUMENT, unit -> withRules(1).declareVar(0, p, 12, unit, 0, false));
        }
        for (int unit = NONE; unit <= AUTO; unit++) {
            int u = unit;
            range("the second number", -9999, 9999, ARGUMENT, n -> withRules(1).declareVar(0, GAP, 13, u, n, true));
        }
    }

    /** "number: -9999 to 9999: the number of the second value" */
    private void secondNumbers() {
        Cascadery x = withRules(1);
        for (int number : new int[] {-9999, -1, 0, 1, 9999}) {
            x.declareVar(0, TINT, 12, PLAIN, number, false);
            check.due("PLAIN", x.value(1, TINT), number);
            x.declareVar(0, 15, 13, PX, number, false);
            check.due("PX", x.value(1, GAP), number);
            check.due("PX of both", x.value(1, EDGE), number);
            x.declareVar(0, 14, 13, HELD, number, false);
            check.due("of a variable", x.value(1, 14), 500000 + number);
            x.declareVar(0, 14, 13, AUTO, number, false);
            check.due("of AUTO", x.value(1, 14), 600000);
            x.declareVar(0, 14, 13, NONE, number, false);
            check.due("of none", x.value(1, 14), INVALID);
        }
    }

    /** "declarations, at most one for each property"; "Returns how many declarations the rule, or the element, has then." */
    private void oneForEachProperty() {
        for (int block : new int[] {0, 101}) {
            Cascadery x = withRules(1);
            for (int p = 0; p < 15; p++) {
                check.due("one more", x.declare(block, p, UNSET, 0, false), p + 1);
            }
            for (int p = 0; p < 15; p++) {
                check.due("as many", x.declareVar(block, p, 12, NONE, 0, true), 15);
                check.due("as many again", x.declare(block, p, REVERT, 0, false), 15);
            }
            for (int p = 14; p >= 0; p--) {
                check.due("one less", x.undeclare(block, p), p);
                check.due("not one less", x.undeclare(block, p), p);
            }
        }
    }

    /** "With the property 15, which is short for GAP and EDGE, both are declared." */
    private void bothOfFifteen() {
        Cascadery x = withRules(1);
        check.due("both", x.declare(0, 15, PX, 4, true), 2);
        check.due("the values", x.value(1, GAP) * 10 + x.value(1, EDGE), 44);
        check.due("others", x.value(1, SPAN) == AUTO_VALUE && x.value(1, SHOWN) == 1, true);
        own(x, 1, GAP, PX, 5);
        check.due("both important", x.value(1, GAP), 4);
        check.due("why GAP", x.why(1, GAP, 0), 0);
        check.due("why EDGE", x.why(1, EDGE, 0), 0);
        check.due("in place of one", x.declare(0, EDGE, PX, 6, false), 2);
        check.due("VAR of both", x.declareVar(0, 15, 12, PX, 7, false), 2);
        check.due("both values", x.value(1, EDGE), 7);
        check.due("one less", x.undeclare(0, GAP), 1);
        check.due("both, though one is there", x.undeclare(0, 15), 0);
        check.due("both, though none is there", x.undeclare(0, 15), 0);
        check.due("one, then both", x.declare(0, GAP, PX, 6, false) * 10 + x.declare(0, 15, PX, 8, false), 12);
        check.due("both are gone", x.undeclare(0, 15), 0);
        check.due("the value", x.value(1, EDGE), 0);
    }

    /** "Takes a declaration away, with the property 15 both." */
    private void undeclared() {
        Cascadery x = withRules(2);
        check.due("from none", x.undeclare(0, TINT), 0);
        x.declare(0, TINT, PLAIN, 1, true);
        x.declare(1, TINT, PLAIN, 2, false);
        check.due("another one", x.undeclare(0, STEP), 1);
        check.due("the important one", x.value(1, TINT), 1);
        check.due("away", x.undeclare(0, TINT), 0);
        check.due("the other rule's", x.value(1, TINT), 2);
        x.declare(0, TINT, PLAIN, 3, false);
        check.due("it is not important any more", x.value(1, TINT), 2);
        x.undeclare(1, TINT);
        check.due("the last one", x.value(1, TINT), 3);
        x.undeclare(0, TINT);
        check.due("UNSET", x.value(1, TINT), 0);
    }

    /** "in place of the one that is declared there for the property" */
    private void inPlaceOfAnother() {
        Cascadery x = withRules(2);
        x.declare(1, TINT, PLAIN, 9, false);
        x.declare(0, TINT, PLAIN, 1, true);
        check.due("important", x.value(1, TINT), 1);
        x.declare(0, TINT, PLAIN, 2, false);
        check.due("not any more", x.value(1, TINT), 9);
        x.declareVar(0, TINT, 12, PLAIN, 3, true);
        check.due("VAR", x.value(1, TINT), 3);
        x.declare(0, TINT, PLAIN, 4, true);
        check.due("no VAR any more", x.value(1, TINT), 4);
        x.declareVar(0, TINT, 12, NONE, 5, true);
        check.due("no second value", x.value(1, TINT), 0);
        x.declare(1, 12, PLAIN, 6, false);
        check.due("the variable", x.value(1, TINT), 6);
        x.declareVar(0, TINT, 13, PLAIN, 5, true);
        check.due("another variable", x.value(1, TINT), 5);
    }

    /** "rank: from the lowest, AGENT, USER, AUTHOR, and then important ones, AUTHOR, USER, AGENT" */
    private void ranks() {
        int[] origins = {AGENT, USER, AUTHOR, AUTHOR, USER, AGENT};
        for (int lower = 0; lower < 6; lower++) {
            for (int higher = lower + 1; higher < 6; higher++) {
                // the lower one has all else for it: the order, the weight and no layer
                Cascadery x = row(1);
                x.sheet(origins[higher], NONE, higher < 3 ? 0 : NONE);
                x.sheet(origins[lower], NONE, lower < 3 ? NONE : 0);
                ruled(x, 0);
                ruled(x, 1, KIND, 1, 0);
                x.declare(0, TINT, PLAIN, 2, higher >= 3);
                x.declare(1, TINT, PLAIN, 1, lower >= 3);
                check.due("rank " + higher + " ahead of " + lower, x.value(1, TINT), 2);
                check.due("by the rank", x.why(1, TINT, 1), 1);
                check.due("itself", x.why(1, TINT, 0), 0);
            }
        }
        Cascadery x = row(1);
        x.sheet(USER, NONE, NONE);
        x.sheet(AUTHOR, NONE, NONE);
        ruled(x, 0);
        ruled(x, 1);
        x.declare(0, TINT, PLAIN, 1, false);
        x.declare(1, TINT, PLAIN, 2, true);
        own(x, 1, TINT, PLAIN, 3);
        check.due("own ones are AUTHOR: ahead of USER", x.why(1, TINT, 0), 1);
        check.due("behind important AUTHOR", x.value(1, TINT), 2);
        x.declare(0, TINT, PLAIN, 1, true);
        x.declare(101, TINT, PLAIN, 3, true);
        check.due("important: behind important USER", x.value(1, TINT), 1);
        x.undeclare(0, TINT);
        check.due("ahead of important AUTHOR", x.value(1, TINT), 3);
    }

    /** "without important, the one from the tree with the lesser depth goes ahead, otherwise that from the greater depth" */
    private void depths() {
        for (int important = 0; important <= 1; important++) {
            boolean is = important == 1;
            Cascadery x = row(1);
            x.shadow(1);
            x.make(2);
            x.putTop(2, 1, 0);
            x.setPart(2, 0);
            x.sheet(AUTHOR, NONE, is ? NONE : 0);
            x.sheet(AUTHOR, 1, is ? 0 : NONE);
            ruled(x, 0, PART, 0, 0);
            ruled(x, 1, KIND, 2, 0);
            x.declare(0, TINT, PLAIN, 1, is);
            x.declare(1, TINT, PLAIN, 2, is);
            check.due("the depth of the tree above, or of its own", x.value(2, TINT), is ? 2 : 1);
            check.due("by the tree", x.why(2, TINT, is ? 0 : 1), 2);
            Cascadery y = row(1);
            y.shadow(1);
            y.sheet(AUTHOR, NONE, is ? NONE : 0);
            y.sheet(AUTHOR, 1, is ? 0 : NONE);
            ruled(y, 0, KIND, 1, 0);
            ruled(y, 1, HOST, 0, 0);
            y.declare(0, TINT, PLAIN, 1, is);
            y.declare(1, TINT, PLAIN, 2, is);
            check.due("the depth of the host's tree, or of its own", y.value(1, TINT), is ? 2 : 1);
            check.due("by the tree", y.why(1, TINT, is ? 0 : 1), 2);
            y.declare(101, TINT, PLAIN, 3, is);
            check.due("own ones are from its tree", y.value(1, TINT), is ? 2 : 3);
            check.due("by the tree, or as own", y.why(1, TINT, 0), is ? 2 : 3);
        }
        Cascadery x = row(1);
        x.shadow(1);
        x.sheet(AGENT, 1, NONE);
        x.sheet(AGENT, NONE, NONE);
        ruled(x, 0, HOST, 0, 0);
        ruled(x, 1);
        x.declare(0, TINT, PLAIN, 1, true);
        x.declare(1, TINT, PLAIN, 2, false);
        check.due("the rank ahead of the tree", x.why(1, TINT, 1), 1);
    }

    /** "own: that of the element itself" */
    private void ownOnes() {
        for (int important = 0; important <= 1; important++) {
            boolean is = important == 1;
            Cascadery x = row(1);
            x.sheet(AUTHOR, NONE, is ? 0 : NONE);
            ruled(x, 0, KIND, 1, 0, NTH, 1, 1);
            x.declare(0, TINT, PLAIN, 1, is);
            own(x, 0, TINT, PLAIN, 5);
            check.due("not of another element", x.value(1, TINT), 1);
            x.declare(101, TINT, PLAIN, 2, is);
            check.due("ahead of layer, weight and order", x.value(1, TINT), 2);
            check.due("as own", x.why(1, TINT, 0), 3);
        }
    }

    /** "without important, a greater layer goes ahead of a lesser one, and none of any; otherwise the other way round" */
    private void layers() {
        int[] order = {0, 1, 2, 3, NONE};
        for (int important = 0; important <= 1; important++) {
            boolean is = important == 1;
            for (int low = 0; low < order.length; low++) {
                for (int high = low + 1; high < order.length; high++) {
                    Cascadery x = row(1);
                    // the one behind has the weight and the order for it
                    x.sheet(USER, NONE, order[is ? low : high]);
                    x.sheet(USER, NONE, order[is ? high : low]);
                    ruled(x, 0);
                    ruled(x, 1, KIND, 1, 0);
                    x.declare(0, TINT, PLAIN, 1, is);
                    x.declare(1, TINT, PLAIN, 2, is);
                    check.due("layer " + order[high] + " and " + order[low], x.value(1, TINT), 1);
                    check.due("by the layer", x.why(1, TINT, 1), 4);
                }
            }
        }
    }

    /** "the greater weight of the selector" */
    private void weights() {
        int[][] rows = {{KIND, 1, 0}, {KIND, 1, 0, KIND, 1, 0}, {CLASS, 0, 0}, {CLASS, 0, 0, KIND, 1, 0}, {STATE, 1, 0, NTH, 1, 1}};
        for (int i = 0; i + 1 < rows.length; i++) {
            for (int important = 0; important <= 1; important++) {
                Cascadery x = row(1);
                x.setClass(1, 0, true);
                x.setState(1, 1, true);
                x.sheet(AUTHOR, NONE, NONE);
                x.sheet(AUTHOR, NONE, NONE);
                ruled(x, 0, rows[i + 1]);
                ruled(x, 1, rows[i]);
                x.declare(0, TINT, PLAIN, 1, important == 1);
                x.declare(1, TINT, PLAIN, 2, important == 1);
                check.due("one more", x.value(1, TINT), 1);
                check.due("by the weight", x.why(1, TINT, 1), 5);
            }
        }
    }

    /** "the greater number of the sheet, then of the rule" */
    private void order() {
        for (int important = 0; important <= 1; important++) {
            Cascadery x = row(1);
            x.select();
            x.sheet(AUTHOR, NONE, 2);
            x.sheet(AUTHOR, NONE, 2);
            x.rule(1, 0);
            x.rule(0, 0);
            x.rule(0, 0);
            for (int r = 0; r <= 2; r++) {
                x.declare(r, TINT, PLAIN, r + 1, important == 1);
            }
            check.due("the later sheet", x.value(1, TINT), 1);
            check.due("the last rule of the earlier one", x.why(1, TINT, 2), 6);
            x.turn(1, false);
            check.due("the later rule", x.value(1, TINT), 3);
            check.due("the earlier rule", x.why(1, TINT, 1), 6);
        }
    }

    /** "Returns the first of these that applies: 11 ... 10 ... 9 ... 8 ... 7 ... otherwise 0" */
    private void whyNot() {
        Cascadery x = row(2);
        x.shadow(2);
        x.make(3);
        x.putTop(3, 2, 0);
        x.sheet(AUTHOR, 2, NONE);
        ruled(x, 0, KIND, 3, 0);
        x.when(0, WIDE, 1000);
        check.due("11", x.why(3, TINT, 0), 11);
        x.declare(0, TINT, REVERT, 0, false);
        check.due("0", x.why(3, TINT, 0), 0);
        check.due("8", x.why(1, TINT, 0), 8);
        check.due("11 for another property", x.why(3, SIZE, 0), 11);
        x.setWidth(999);
        check.due("7", x.why(3, TINT, 0), 7);
        check.due("8 ahead of 7", x.why(2, TINT, 0), 8);
        x.turn(0, false);
        check.due("10 ahead of 7", x.why(3, TINT, 0), 10);
        check.due("10 ahead of 8", x.why(1, TINT, 0), 10);
        x.take(2);
        check.due("10 ahead of 9", x.why(1, TINT, 0), 10);
        x.turn(0, true);
        check.due("9 ahead of 8", x.why(1, TINT, 0), 9);
        x.undeclare(0, TINT);
        check.due("11 ahead of 9", x.why(1, TINT, 0), 11);
        x.turn(0, false);
        check.due("11 ahead of 10", x.why(1, TINT, 0), 11);
        x.put(2, 0, 1);
        x.turn(0, true);
        check.due("11 ahead of 8", x.why(1, TINT, 0), 11);
        check.due("11 ahead of 7", x.why(3, TINT, 0), 11);
    }

    /** "IndexOutOfBoundsException if there is no such element or rule"; "property: 0 to 14" */
    private void argumentsOfWhy() {
        range("why of", 0, 1, BOUNDS, e -> withRules(1).why(e, TINT, 0));
        range("why of the rule", 0, 1, BOUNDS, rule -> withRules(2).why(0, TINT, rule));
        range("why of the property", 0, 14, ARGUMENT, p -> withRules(1).why(1, p, 0));
        Cascadery x = withRules(1);
        x.take(1);
        check.bounds("all wrong, no element", () -> x.why(2, 15, 1));
        check.bounds("all wrong, no rule", () -> x.why(1, 15, 1));
        check.argument("a wrong property, out of the document", () -> x.why(1, 15, 0));
        check.state("out of the document", () -> x.why(1, 0, 0));
        check.due("none of that flushed", x.flushes(), 0);
    }
}
