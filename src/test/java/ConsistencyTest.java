/**
 * The document says that in the end all values are what they are when all are found anew, but for some named cases.
 * Here edits that look random avoid these, so that marks that are missing show.
 */
public final class ConsistencyTest {
    private static final int RUNS = 300;
    private static final int STEPS = 400;

    private final Check check;
    private final Cascadery x = new Cascadery();
    private final Dice dice;
    private int elements = 1;
    private int selectors;
    private int sheets;
    private int rules;
    private boolean hasFailed;

    private ConsistencyTest(Check check, int run) {
        this.check = check;
        dice = new Dice(run * 977L + 5);
    }

    private int below(int end) {
        return dice.below(end);
    }

    private void move() {
        int e = below(elements);
        switch (below(6)) {
            case 0:
                x.take(e);
                // the size of a holder that is AUTO would stay
                x.setWidth(x.setWidth(0));
                break;
            case 1:
                x.putTop(e, below(elements), below(3));
                break;
            case 2:
                x.shadow(e);
                break;
            default:
                x.put(e, below(elements), below(3));
        }
    }

    private void changeFeature() {
        int e = below(elements);
        switch (below(4)) {
            case 0:
                x.setState(e, below(2), below(2) == 0);
                break;
            case 1:
                x.setAttribute(e, below(2), below(3) - 1);
                break;
            default:
                x.setClass(e, below(3), below(2) == 0);
        }
    }

    private void addTest() {
        int test = below(8);
        int one = test == 5 || test == 6 ? below(selectors + 1) : test == 2 || test == 3 ? below(2) : below(3);
        int two = test == 7 ? below(selectors + 1) : below(3);
        x.test(test, one, two);
        if (below(3) == 0) {
            x.join(below(4));
        }
        if (below(2) == 0) {
            x.select();
            selectors++;
        }
    }

    private void declare() {
        int rule = below(4) == 0 ? 100 + below(elements) : below(rules + 1);
        int property = below(15);
        int number = below(300) - 50;
        if (below(4) == 0) {
            x.declareVar(rule, property, 12 + below(3), below(8) - 1, number, false);
        } else {
            x.declare(rule, property, below(11), number, below(5) == 0);
        }
    }

    private void step() {
        switch (below(12)) {
            case 0:
                x.make(below(3) == 0 ? 7 : below(3));
                elements++;
                break;
            case 1:
            case 2:
            case 3:
                move();
                break;
            case 4:
            case 5:
                changeFeature();
                break;
            case 6:
            case 7:
                addTest();
                break;
            case 8:
                x.sheet(below(3), below(2) == 0 ? -1 : below(elements), below(5) - 1);
                sheets++;
                break;
            case 9:
                x.rule(below(sheets + 1), below(selectors + 1));
                rules++;
                break;
            case 10:
                x.when(below(rules + 1), 2 + below(2), below(300));
                break;
            default:
                declare();
        }
    }

    private void compare(int run, int step) {
        for (int e = 0; e < elements && !hasFailed; e++) {
            for (int p = 0; p < 15 && x.isIn(e); p++) {
                int kept = x.value(e, p);
                int anew = x.valueAnew(e, p);
                check.due("run " + run + ", step " + step + ", element " + e + ", property " + p, kept, anew);
                hasFailed |= kept != anew;
            }
        }
    }

    /** Makes wrong calls, too: they change nothing, but must not be thrown by the machine. */
    private void run(int run) {
        for (int step = 0; step < STEPS && !hasFailed; step++) {
            try {
                step();
            } catch (IllegalStateException | IllegalArgumentException | IndexOutOfBoundsException e) {
                check.due("a text of " + e, e.getMessage() != null, false);
            }
            if (below(3) == 0) {
                compare(run, step);
            }
        }
    }

    public static void main(String[] args) {
        Check check = new Check("ConsistencyTest");
        for (int run = 0; run < RUNS; run++) {
            new ConsistencyTest(check, run).run(run);
        }
        check.end();
    }
}
