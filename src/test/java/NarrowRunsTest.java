/**
 * Random runs like those of RandomRunsTest, each in a small document where one matter happens again and again, so that
 * what is rare there (a transition that turns back, a size that is out of date) is met often.
 * Arguments: the number of runs of each kind, and the number of the first one.
 */
public final class NarrowRunsTest extends TestBase {
    private static final int RUNS = 60;
    private static final int CALLS = 470;
    private static final int KINDS_OF_RUNS = 6;

    private final Pair pair = new Pair();
    private final Dice dice;
    private final int matter;

    private NarrowRunsTest(int matter, int run) {
        super("NarrowRunsTest");
        this.matter = matter;
        dice = new Dice(run * 7919L + matter * 104729L + 3);
    }

    private int element() {
        return dice.below(pair.model.nodes.size());
    }

    private int rule() {
        return dice.below(pair.model.rules.size());
    }

    private int sheet() {
        return dice.below(pair.model.sheets.size());
    }

    private boolean isEven() {
        return dice.chance(2);
    }

    /** Elements below 0, each a child of one ahead. */
    private void grow(int count, int... kinds) {
        for (int e = 1; e <= count; e++) {
            pair.make(dice.oneOf(kinds));
            pair.put(e, dice.below(e), 0);
        }
    }

    /** Rules of one sheet for the elements with a class, from 0 on. */
    private void addClassRules(int count) {
        pair.sheet(AUTHOR, NONE, NONE);
        for (int c = 0; c < count; c++) {
            pair.test(CLASS, c, 0);
            pair.select();
            pair.rule(0, c);
        }
    }

    private void moveAny() {
        int e = element();
        int above = element();
        if (e == above || pair.model.shownParent(e) != NONE) {
            pair.take(e);
        } else if (pair.model.nodes.get(above).tops != null && isEven()) {
            pair.putTop(e, above, dice.below(pair.model.nodes.get(above).tops.size() + 1));
        } else {
            pair.put(e, above, dice.below(pair.model.nodes.get(above).children.size() + 1));
        }
    }

    private void buildTicks() {
        grow(3, 1);
        addClassRules(3);
        for (int i = 0; i < 12; i++) {
            declareMoving(dice.below(3));
        }
        for (int e = 0; e < 4; e++) {
            pair.declare(100 + e, EASE, PLAIN, dice.oneOf(3, 7, 10, 20), false);
        }
    }

    /** One of few numbers, so that a value often is again what it was. */
    private void declareMoving(int block) {
        int property = dice.below(5);
        int unit = property == TINT ? PLAIN : property == SPAN && dice.chance(6) ? AUTO : PX;
        pair.declare(block, property, unit, dice.oneOf(-7, 0, 10, 10, 33, 100), dice.chance(9));
    }

    private void stepTicks() {
        switch (dice.below(12)) {
            case 0:
                declareMoving(isEven() ? 100 + element() : rule());
                break;
            case 1:
                pair.undeclare(100 + element(), dice.below(5));
                break;
            case 2:
                pair.declare(100 + element(), EASE, PLAIN, dice.oneOf(-1, 0, 1, 3, 7, 10, 20), false);
                break;
            case 3:
                pair.declare(isEven() ? 100 + element() : rule(), PLAY, PLAIN, dice.oneOf(-1, 0, 0, 1, 4), false);
                break;
            case 4:
                pair.frame(dice.below(2), dice.below(5), dice.oneOf(0, 1, 3, 5, 9, 10), dice.oneOf(-50, 0, 40, 77));
                break;
            case 5:
                pair.animation(dice.below(2), dice.oneOf(1, 3, 7, 10), 1 + dice.below(4), isEven());
                break;
            case 6:
                if (dice.chance(3)) {
                    moveAny();
                }
                break;
            case 7:
            case 8:
                pair.tick(1 + dice.below(4));
                break;
            default:
                pair.setClass(element(), dice.below(3), isEven());
        }
        int e = element();
        for (int p = TINT; p <= EDGE && pair.model.isIn(e) && dice.chance(2); p++) {
            pair.seen(e, p);
        }
    }

    private void buildHolders() {
        grow(6, 1);
        pair.make(1);
        addClassRules(3);
        for (int e = 0; e < 7; e += 1 + dice.below(3)) {
            pair.declare(100 + e, HOLDS, PLAIN, 1, false);
        }
        for (int i = 0; i < 14; i++) {
            declareLength(isEven() ? 100 + element() : rule());
        }
        for (int e = 0; e < 8; e++) {
            pair.setClass(e, dice.below(3), true);
        }
    }

    private void declareLength(int block) {
        int property = dice.oneOf(SIZE, SPAN, SPAN, GAP, GAP, 12);
        int unit = dice.oneOf(PX, EM, TOP, HELD, HELD, property == SPAN ? AUTO : PX, property == SPAN ? PERCENT : PX);
        pair.declare(block, property, unit, dice.oneOf(0, 10, 25, 50, 150), false);
    }

    private void stepHolders() {
        switch (dice.below(9)) {
            case 0:
                declareLength(isEven() ? 100 + element() : rule());
                break;
            case 1:
                pair.undeclare(100 + element(), dice.oneOf(SPAN, SPAN, GAP, HOLDS));
                break;
            case 2:
                pair.declareVar(isEven() ? 100 + element() : rule(), dice.oneOf(SPAN, GAP), 12, PX, 20, false);
                break;
            case 3:
                pair.when(rule(), dice.oneOf(ROOMY, TIGHT, ROOMY, TIGHT, WIDE, NONE), dice.oneOf(0, 20, 60, 150, 400, 1000));
                break;
            case 4:
                pair.setClass(element(), dice.below(3), isEven());
                break;
            case 5:
                pair.declare(100 + element(), HOLDS, PLAIN, dice.below(2), false);
                break;
            case 6:
                pair.setWidth(dice.oneOf(0, 400, 1000));
                break;
            default:
                moveAny();
        }
        for (int i = 0; i < 3; i++) {
            pair.size(element());
            pair.value(element(), dice.oneOf(SIZE, SPAN, GAP, 12));
            pair.valueAnew(element(), dice.oneOf(SIZE, SPAN, GAP, 12));
            pair.why(element(), dice.oneOf(SPAN, GAP), rule());
        }
    }

    private void buildMarks() {
        grow(9, 0, 1, 7);
        pair.shadow(dice.below(3));
        pair.sheet(AUTHOR, NONE, NONE);
        for (int e = 1; e < 5; e++) {
            pair.take(9 - e);
            moveAny();
        }
    }

    private void addNestedSelector() {
        int compounds = 1 + dice.below(3);
        for (int c = 1; c <= compounds; c++) {
            for (int i = dice.below(3); i >= 0; i--) {
                addNestedTest();
            }
            if (c < compounds) {
                pair.join(dice.oneOf(BELOW, CHILD, dice.chance(4) ? NEXT : BELOW, dice.chance(4) ? LATER : CHILD));
            }
        }
        pair.select();
    }

    private void addNestedTest() {
        int inner = dice.below(Math.max(1, pair.model.selectors.size()));
        switch (dice.below(14)) {
            case 0:
                pair.test(HAS, dice.below(4), inner);
                break;
            case 1:
            case 2:
                pair.test(NOT, inner, 0);
                break;
            case 3:
            case 4:
                pair.test(IS, inner, 0);
                break;
            case 5:
                pair.test(dice.oneOf(HOST, PART), dice.below(2), 0);
                break;
            case 6:
                pair.test(dice.chance(3) ? NTH : KIND, dice.below(3), dice.below(3));
                break;
            case 7:
                pair.test(STATE, dice.below(2), 0);
                break;
            case 8:
                pair.test(ATTRIBUTE, dice.below(2), dice.below(2));
                break;
            default:
                pair.test(CLASS, dice.below(8), 0);
        }
    }

    private void stepMarks() {
        switch (dice.below(12)) {
            case 0:
                addNestedSelector();
                break;
            case 1:
                pair.rule(0, dice.below(Math.max(1, pair.model.selectors.size())));
                break;
            case 2:
            case 3:
                moveAny();
                break;
            case 4:
                pair.setState(element(), dice.below(2), isEven());
                break;
            case 5:
                pair.setAttribute(element(), dice.below(2), dice.below(3) - 1);
                break;
            case 6:
                pair.setPart(element(), dice.below(3) - 1);
                break;
            case 7:
                pair.declare(dice.chance(3) || pair.model.rules.isEmpty() ? 100 + element() : rule(), dice.below(2), UNSET, 0, false);
                break;
            default:
                pair.setClass(element(), dice.below(8), isEven());
        }
        pair.marked();
        if (dice.chance(2)) {
            pair.value(0, TINT);
            pair.counts();
        }
    }

    private void buildSlots() {
        grow(12, 1, 7, 7);
        for (int i = 0; i < 4; i++) {
            pair.shadow(dice.below(8));
        }
    }

    private void stepSlots() {
        switch (dice.below(6)) {
            case 0:
                pair.setAttribute(element(), 1, dice.below(3) - 1);
                break;
            case 1:
                pair.declare(100 + element(), dice.oneOf(RESET, STEP, SHOWN), PLAIN, dice.below(3) - 1, false);
                break;
            case 2:
                pair.declare(100 + element(), MADE, PLAIN, 1, false);
                break;
            default:
                moveAny();
        }
        pair.marked();
        for (int i = 0; i < 5; i++) {
            pair.shownParent(element());
            pair.made(element());
        }
        pair.isIn(element());
    }

    private void buildVariables() {
        grow(3, 1);
        for (int origin = AGENT; origin <= AUTHOR; origin++) {
            pair.sheet(origin, NONE, NONE);
        }
        pair.select();
        for (int i = 0; i < 6; i++) {
            pair.rule(i % 3, 0);
        }
    }

    private void stepVariables() {
        int block = dice.chance(3) ? 100 + element() : rule();
        int variable = 12 + dice.below(3);
        boolean isImportant = dice.chance(5);
        switch (dice.below(8)) {
            case 0:
                pair.undeclare(block, isEven() ? variable : dice.below(5));
                break;
            case 1:
            case 2:
                pair.declareVar(block, variable, 12 + dice.below(3), dice.oneOf(NONE, NONE, PLAIN, PX, EM, AUTO), 5, isImportant);
                break;
            case 3:
                pair.declare(block, variable, dice.oneOf(INITIAL, INHERIT, UNSET, REVERT, REVERT), 0, isImportant);
                break;
            case 4:
                pair.declareVar(block, dice.below(12), variable, dice.oneOf(NONE, PLAIN, PX, PERCENT), dice.below(200), isImportant);
                break;
            case 5:
                pair.declare(block, dice.below(12), dice.oneOf(INITIAL, INHERIT, UNSET, REVERT, REVERT), 0, isImportant);
                break;
            default:
                pair.declare(block, variable, dice.below(7), dice.oneOf(-9999, -1, 0, 40, 9999), isImportant);
        }
        for (int i = 0; i < 2; i++) {
            int e = element();
            pair.value(e, 12 + dice.below(3));
            pair.value(e, dice.below(12));
            pair.valueAnew(e, dice.below(15));
        }
    }

    private void buildCascade() {
        grow(2, 1);
        pair.shadow(1);
        pair.make(1);
        pair.putTop(3, 1, 0);
        pair.shadow(3);
        pair.make(1);
        pair.putTop(4, 3, 0);
        pair.setPart(3, 0);
        pair.setPart(4, 0);
        for (int i = 0; i < 8; i++) {
            pair.sheet(dice.below(3), dice.oneOf(NONE, 1, 3), dice.below(5) - 1);
        }
        pair.select();
        pair.test(HOST, 0, 0);
        pair.select();
        pair.test(PART, 0, 0);
        pair.select();
        pair.test(CLASS, 0, 0);
        pair.select();
        for (int i = 0; i < 16; i++) {
            pair.rule(sheet(), dice.below(4));
        }
    }

    private void stepCascade() {
        switch (dice.below(9)) {
            case 0:
                pair.turn(sheet(), !dice.chance(3));
                break;
            case 1:
                pair.undeclare(dice.chance(4) ? 100 + element() : rule(), dice.below(2));
                break;
            case 2:
                pair.when(rule(), dice.oneOf(NONE, NONE, WIDE, NARROW, KNOWN), dice.oneOf(14, 15, 1000));
                break;
            case 3:
                pair.setClass(element(), 0, isEven());
                break;
            case 4:
                if (dice.chance(4)) {
                    moveAny();
                }
                break;
            default:
                pair.declare(dice.chance(4) ? 100 + element() : rule(), dice.below(2), dice.chance(3) ? REVERT : INITIAL, 0,
                        dice.chance(3));
                pair.declare(dice.chance(4) ? 100 + element() : rule(), TINT, PLAIN, pair.calls.size(), dice.chance(3));
        }
        for (int i = 0; i < 4; i++) {
            pair.why(element(), dice.below(2), rule());
            pair.value(element(), dice.below(2));
        }
    }

    private void build() {
        switch (matter) {
            case 0 -> buildTicks();
            case 1 -> buildHolders();
            case 2 -> buildMarks();
            case 3 -> buildSlots();
            case 4 -> buildVariables();
            default -> buildCascade();
        }
    }

    private void step() {
        switch (matter) {
            case 0 -> stepTicks();
            case 1 -> stepHolders();
            case 2 -> stepMarks();
            case 3 -> stepSlots();
            case 4 -> stepVariables();
            default -> stepCascade();
        }
    }

    private void run() {
        build();
        while (pair.calls.size() < CALLS && !pair.hasFailed) {
            step();
        }
    }

    public static void main(String[] args) {
        int runs = args.length > 0 ? Integer.parseInt(args[0]) : RUNS;
        int first = args.length > 1 ? Integer.parseInt(args[1]) : 0;
        Check check = new Check("NarrowRunsTest");
        int shown = 0;
        for (int i = 0; i < runs * KINDS_OF_RUNS; i++) {
            NarrowRunsTest test = new NarrowRunsTest(i % KINDS_OF_RUNS, first + i / KINDS_OF_RUNS);
            test.run();
            check.due("run " + (first + i / KINDS_OF_RUNS) + " of matter " + test.matter, !test.pair.hasFailed, true);
            if (test.pair.hasFailed && shown == 0) {
                shown++;
                test.pair.calls.forEach(System.out::println);
            }
        }
        check.end();
    }
}
