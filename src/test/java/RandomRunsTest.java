/**
 * Runs of calls that look random, but are always the same, on a Cascadery and on a Model: all answers must agree.
 * Arguments: the number of runs, and the number of the first one.
 */
public final class RandomRunsTest {
    private static final int RUNS = 400;
    private static final int CALLS = 500;

    private final Dice dice;
    private final Pair pair = new Pair();
    private int elements;
    /** How often things are wrong, moved, listened to. */
    private final int wrongness;
    private final int flavour;

    private RandomRunsTest(int run) {
        dice = new Dice(run * 7919L + 17);
        wrongness = run % 8 == 0 ? 10 : 100;
        flavour = run % 5;
    }

    private int below(int end) {
        return dice.below(end);
    }

    private boolean chance(int of) {
        return dice.chance(of);
    }

    /** A number from least to most, now and then a bit outside. */
    private int from(int least, int most) {
        if (chance(wrongness * 3)) {
            return chance(2) ? least - 1 - below(3) : most + 1 + below(3);
        }
        return least + below(most - least + 1);
    }

    private int element() {
        for (int i = 0; i < 3; i++) {
            int e = below(elements);
            if (pair.model.isIn(e)) {
                return e;
            }
        }
        return from(0, elements - 1);
    }

    private int looseElement() {
        for (int i = 0; i < 9; i++) {
            int e = below(elements);
            if (pair.model.shownParent(e) == -1 && e != 0) {
                return e;
            }
        }
        return from(0, elements - 1);
    }

    private int host() {
        for (int i = 0; i < 8; i++) {
            int e = below(elements);
            if (pair.model.nodes.get(e).tops != null) {
                return e;
            }
        }
        return element();
    }

    private int tree() {
        return chance(2) ? -1 : host();
    }

    private int selector() {
        return from(0, Math.max(0, pair.model.selectors.size() - 1));
    }

    private int innerSelector() {
        for (int i = 0; i < 5; i++) {
            int s = selector();
            if (s >= 0 && s < pair.model.selectors.size() && !pair.model.isInnerBarred(s)) {
                return s;
            }
        }
        return selector();
    }

    private int ruleNumber() {
        return from(0, Math.max(0, pair.model.rules.size() - 1));
    }

    private int block() {
        return chance(3) ? 100 + element() : ruleNumber();
    }

    private int number() {
        switch (below(6)) {
            case 0:
                return from(-9999, 9999);
            case 1:
                return from(-3, 3);
            case 2:
                return 9999;
            default:
                return from(0, 200);
        }
    }

    private int property() {
        return chance(4) ? from(12, 14) : chance(5) ? 6 : chance(5) ? 9 + below(3) : from(0, 15);
    }

    private int readable() {
        return from(0, 14);
    }

    private void addSelector() {
        int compounds = 1 + (chance(2) ? 0 : below(chance(3) ? 4 : 2));
        for (int i = 0; i < compounds; i++) {
            int tests = chance(5) ? 0 : 1 + (chance(2) ? 0 : below(chance(3) ? 4 : 2));
            for (int j = 0; j < tests; j++) {
                addTest();
            }
            if (i < compounds - 1) {
                pair.join(from(0, flavour == 4 ? 1 : 3));
            }
        }
        pair.select();
    }

    private void addTest() {
        int kind = chance(flavour == 1 ? 3 : 12) ? 8 + below(2) : chance(3) ? 1 : below(flavour == 4 ? 4 : 8);
        kind = chance(wrongness) ? from(0, 9) : kind;
        int most = kind == 0 || kind == 1 || kind == 2 ? flavour < 4 ? 2 : 3 : kind == 3 ? 1 : 3;
        int one = kind == 5 || kind == 6 ? innerSelector() : kind == 4 ? from(-3, 3) : from(0, most);
        int two = kind == 7 ? innerSelector() : kind == 3 ? from(0, 2) : from(-3, 6);
        pair.test(kind, one, two);
    }

    private void declare() {
        int property = property();
        int block = block();
        boolean isImportant = chance(6);
        if (chance(4)) {
            pair.declareVar(block, property, from(12, 14), from(-1, 6), number(), isImportant);
            return;
        }
        int unit = from(0, 10);
        for (int i = 0; i < 5 && (!suits(property, unit) || unit > 6 && !chance(3)); i++) {
            unit = from(0, 10);
        }
        pair.declare(block, property, unit, smallNumber(property), isImportant);
    }

    private int smallNumber(int property) {
        switch (property) {
            case 5:
                return chance(4) ? 0 : 1;
            case 6:
            case 9:
                return chance(3) ? from(-1, 0) : 1;
            case 7:
                return from(-2, 3);
            case 8:
                return from(-1, 5);
            case 10:
                return chance(4) ? from(-1, 0) : from(1, 20);
            case 11:
                return from(-1, 4);
            default:
                return number();
        }
    }

    private static boolean suits(int property, int unit) {
        boolean isLength = property >= 1 && property <= 4 || property == 15;
        return unit > 6 || property >= 12 && property < 15 || isLength == (unit >= 1 && unit <= 5);
    }

    private void move() {
        int e = looseElement();
        switch (below(6)) {
            case 0:
            case 1:
                pair.take(element());
                break;
            case 2:
                pair.putTop(e, host(), below(3));
                break;
            default:
                int p = element();
                int most = p < 0 || p >= elements ? 1 : pair.model.nodes.get(p).children.size();
                pair.put(e, p, from(0, most));
        }
    }

    private void changeFeature() {
        switch (below(7)) {
            case 0:
                pair.setState(element(), from(0, 2), chance(2));
                break;
            case 1:
            case 2:
                pair.setAttribute(element(), from(0, 1), from(-1, 1));
                break;
            case 3:
                pair.setPart(element(), from(-1, 3));
                break;
            default:
                pair.setClass(element(), from(0, flavour < 4 ? 2 : 3), chance(2));
        }
    }

    private void changeSheets() {
        switch (below(9)) {
            case 0:
                pair.sheet(from(0, 2), tree(), from(-1, 3));
                break;
            case 1:
                pair.turn(from(0, Math.max(0, pair.model.sheets.size() - 1)), !chance(3));
                break;
            case 2:
                pair.when(ruleNumber(), chance(2) ? 2 + below(2) : from(-1, 4), chance(3) ? from(0, 16) : number() * 5 % 10000);
                break;
            case 3:
                pair.undeclare(block(), property());
                break;
            case 4:
                pair.setWidth(from(0, 2000));
                break;
            default:
                pair.rule(from(0, Math.max(0, pair.model.sheets.size() - 1)), selector());
        }
    }

    private void read() {
        switch (below(9)) {
            case 0:
                pair.size(element());
                break;
            case 1:
            case 2:
                pair.seen(element(), from(0, 4));
                break;
            case 3:
                pair.made(element());
                break;
            case 4:
                askWhy();
                break;
            case 5:
                pair.valueAnew(element(), readable());
                break;
            case 6:
                pair.marked();
                pair.counts();
                break;
            default:
                pair.value(element(), readable());
        }
    }

    private void askWhy() {
        int rule = ruleNumber();
        int property = readable();
        for (int i = 0; i < 20; i++) {
            if (rule >= 0 && rule < pair.model.rules.size() && pair.model.rules.get(rule).declared.containsKey(property)) {
                break;
            }
            rule = ruleNumber();
            property = readable();
        }
        pair.why(element(), property, rule);
    }

    private void other() {
        switch (below(8)) {
            case 0:
                pair.make(from(0, 7));
                elements = pair.model.nodes.size();
                break;
            case 1:
                pair.shadow(element());
                break;
            case 2:
                pair.animation(from(0, 3), from(1, 30), from(1, 4), chance(2));
                break;
            case 3:
                pair.frame(from(0, 3), from(0, 4), from(0, 10), number());
                break;
            case 4:
                if (flavour != 2) {
                    pair.listen(element(), readable(), element(), from(0, 3));
                }
                break;
            case 5:
                pair.weight(selector());
                pair.allThat(selector(), tree());
                break;
            case 6:
                pair.matches(element(), selector(), tree());
                pair.shownParent(element());
                pair.isIn(element());
                break;
            default:
                pair.tick(from(1, 12));
        }
    }

    private void build() {
        int wanted = 2 + below(flavour == 3 ? 28 : 14);
        elements = 1;
        for (int i = 0; i < wanted; i++) {
            pair.make(chance(flavour == 4 ? 9 : 4) ? 7 : below(flavour == 4 ? 1 : 3));
            elements = pair.model.nodes.size();
        }
        for (int i = 0; i < 1 + below(4); i++) {
            pair.shadow(below(elements));
        }
        for (int i = 0; i < elements && flavour != 4; i++) {
            pair.setClass(below(elements), below(3), true);
        }
        for (int i = 1; i < elements; i++) {
            int above = below(i);
            if (pair.model.nodes.get(above).tops != null && chance(2)) {
                pair.putTop(i, above, below(pair.model.nodes.get(above).tops.size() + 1));
            } else {
                pair.put(i, above, below(pair.model.nodes.get(above).children.size() + 1));
            }
        }
        for (int i = 0; i < 3; i++) {
            pair.sheet(below(3), i == 0 ? -1 : tree(), below(5) - 1);
        }
        for (int i = 0; i < 6; i++) {
            addSelector();
            pair.rule(below(3), pair.model.selectors.size() - 1);
            for (int j = 0; j < 5; j++) {
                declare();
            }
        }
    }

    private boolean run() {
        build();
        while (pair.calls.size() < CALLS && !pair.hasFailed) {
            switch (below(13)) {
                case 0:
                    move();
                    break;
                case 1:
                case 2:
                    changeFeature();
                    break;
                case 3:
                    changeSheets();
                    break;
                case 4:
                case 5:
                    declare();
                    break;
                case 6:
                    addSelector();
                    break;
                case 7:
                case 8:
                    other();
                    break;
                default:
                    read();
            }
        }
        return !pair.hasFailed;
    }

    public static void main(String[] args) {
        int runs = args.length > 0 ? Integer.parseInt(args[0]) : RUNS;
        int first = args.length > 1 ? Integer.parseInt(args[1]) : 0;
        int failed = 0;
        long calls = 0;
        long thrown = 0;
        for (int i = first; i < first + runs; i++) {
            RandomRunsTest test = new RandomRunsTest(i);
            if (!test.run()) {
                failed++;
                System.out.println("run " + i + " failed at call " + test.pair.calls.size());
                if (failed == 1) {
                    test.pair.calls.forEach(System.out::println);
                }
            }
            calls += test.pair.calls.size();
            thrown += test.pair.thrown;
        }
        System.out.println(runs + " runs, " + calls + " calls, " + thrown + " of them throwing, " + failed + " failed");
        System.exit(failed == 0 ? 0 : 1);
    }
}
