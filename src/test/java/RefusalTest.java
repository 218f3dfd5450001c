import java.util.function.Consumer;
import java.util.function.Supplier;

/**
 * "A method that throws an exception changes nothing. If several exceptions apply, the one that is documented first is
 * thrown." Each refused call is made on one of two objects that got the same calls before; then each view of a Portrait
 * must be the same of both.
 */
public final class RefusalTest extends TestBase {
    private static final int[] NO_ELEMENTS = {-1, 12, 30, 100, LEAST, MOST};
    private final Supplier<Cascadery> rich = Scene::rich;
    private final Supplier<Cascadery> full = Scene::full;
    private final Supplier<Cascadery> fresh = Cascadery::new;
    private final Supplier<Cascadery> deep = Scene::deep;

    private RefusalTest() {
        super("RefusalTest");
    }

    public static void main(String[] args) {
        RefusalTest test = new RefusalTest();
        test.make();
        test.shadow();
        test.put();
        test.putTop();
        test.take();
        test.features();
        test.questions();
        test.test();
        test.fullDraft();
        test.join();
        test.select();
        test.selectors();
        test.sheet();
        test.turn();
        test.rule();
        test.when();
        test.declare();
        test.declareVar();
        test.undeclare();
        test.setWidth();
        test.value();
        test.sizeAndMade();
        test.seen();
        test.why();
        test.valueAnew();
        test.ticks();
        test.listen();
        test.check.end();
    }

    private void refused(String what, Supplier<Cascadery> scene, Class<? extends RuntimeException> wanted,
            Consumer<Cascadery> call) {
        for (int i = 0; i < Portrait.VIEWS.size(); i++) {
            Cascadery told = scene.get();
            check.thrown(what, wanted, () -> call.accept(told));
            check.due("view " + i + " behind " + what, Portrait.drawn(Portrait.VIEWS.get(i), told),
                    Portrait.drawn(Portrait.VIEWS.get(i), scene.get()));
        }
    }

    private void make() {
        for (int wrong : new int[] {-1, 8, LEAST, MOST}) {
            refused("make " + wrong, rich, ARGUMENT, x -> x.make(wrong));
            refused("make " + wrong + " of too many", full, ARGUMENT, x -> x.make(wrong));
        }
        refused("make of too many", full, STATES, x -> x.make(0));
    }

    private void shadow() {
        for (int wrong : NO_ELEMENTS) {
            refused("shadow " + wrong, rich, BOUNDS, x -> x.shadow(wrong));
        }
        refused("a second shadow tree", rich, STATES, x -> x.shadow(2));
        refused("a second empty shadow tree", rich, STATES, x -> x.shadow(8));
    }

    private void put() {
        for (int wrong : NO_ELEMENTS) {
            refused("put " + wrong, rich, BOUNDS, x -> x.put(wrong, 0, 0));
            refused("put below " + wrong, rich, BOUNDS, x -> x.put(11, wrong, 0));
        }
        for (int wrong : new int[] {-1, 4, LEAST, MOST}) {
            refused("put at " + wrong, rich, BOUNDS, x -> x.put(11, 0, wrong));
        }
        refused("put into an empty row", rich, BOUNDS, x -> x.put(11, 1, 1));
        refused("put 0 with a wrong place", rich, BOUNDS, x -> x.put(0, 1, 1));
        refused("put 0 below none", rich, BOUNDS, x -> x.put(0, 12, 0));
        refused("put one that is not loose with a wrong place", rich, BOUNDS, x -> x.put(1, 6, 1));
        refused("put into itself with a wrong place", rich, BOUNDS, x -> x.put(9, 9, 2));
        refused("put 0", rich, STATES, x -> x.put(0, 11, 0));
        refused("put a child", rich, STATES, x -> x.put(1, 0, 0));
        refused("put a top", rich, STATES, x -> x.put(3, 0, 0));
        refused("put into itself", rich, STATES, x -> x.put(9, 9, 0));
        refused("put below itself", rich, STATES, x -> x.put(9, 8, 0));
        refused("put into its own shadow tree", rich, STATES, x -> x.put(9, 10, 0));
        refused("put below itself, 28 levels", deep, STATES, x -> x.put(1, 29, 0));
        refused("put where it is", deep, STATES, x -> x.put(2, 1, 0));
    }

    private void putTop() {
        for (int wrong : NO_ELEMENTS) {
            refused("putTop " + wrong, rich, BOUNDS, x -> x.putTop(wrong, 2, 0));
            refused("putTop in " + wrong, rich, BOUNDS, x -> x.putTop(11, wrong, 0));
        }
        for (int wrong : new int[] {-1, 3, LEAST, MOST}) {
            refused("putTop at " + wrong, rich, BOUNDS, x -> x.putTop(11, 2, wrong));
        }
        refused("putTop without a shadow tree", rich, BOUNDS, x -> x.putTop(11, 1, 0));
        refused("putTop into an empty shadow tree", rich, BOUNDS, x -> x.putTop(11, 8, 1));
        refused("putTop 0 without a shadow tree", rich, BOUNDS, x -> x.putTop(0, 1, 0));
        refused("putTop of a child with a wrong place", rich, BOUNDS, x -> x.putTop(1, 2, 3));
        refused("putTop of itself with a wrong place", rich, BOUNDS, x -> x.putTop(9, 9, 2));
        refused("putTop 0", rich, STATES, x -> x.putTop(0, 2, 0));
        refused("putTop of a child", rich, STATES, x -> x.putTop(1, 2, 0));
        refused("putTop of a top", rich, STATES, x -> x.putTop(3, 2, 1));
        refused("putTop into its own shadow tree", rich, STATES, x -> x.putTop(9, 9, 0));
        refused("putTop in a shadow tree below it", rich, STATES, x -> x.putTop(9, 8, 0));
        refused("putTop in a shadow tree of its own", rich, STATES, x -> x.putTop(9, 10, 0));
        refused("putTop below itself, 28 levels", deep, STATES, x -> x.putTop(1, 29, 0));
    }

    private void take() {
        for (int wrong : NO_ELEMENTS) {
            refused("take " + wrong, rich, BOUNDS, x -> x.take(wrong));
        }
        refused("take 0", rich, STATES, x -> x.take(0));
        refused("take a loose one", rich, STATES, x -> x.take(11));
        refused("take a loose one with more below", rich, STATES, x -> x.take(9));
        refused("take what was taken", deep, STATES, x -> x.take(1));
        refused("take 1 of 0", fresh, BOUNDS, x -> x.take(1));
    }

    private void features() {
        for (int wrong : NO_ELEMENTS) {
            refused("setClass of " + wrong, rich, BOUNDS, x -> x.setClass(wrong, 0, true));
            refused("setState of " + wrong, rich, BOUNDS, x -> x.setState(wrong, 0, true));
            refused("setAttribute of " + wrong, rich, BOUNDS, x -> x.setAttribute(wrong, 0, 1));
            refused("setPart of " + wrong, rich, BOUNDS, x -> x.setPart(wrong, 1));
        }
        refused("both wrong: setClass", rich, BOUNDS, x -> x.setClass(12, 8, true));
        refused("both wrong: setState", rich, BOUNDS, x -> x.setState(12, 4, true));
        refused("both wrong: setAttribute", rich, BOUNDS, x -> x.setAttribute(12, 2, 10));
        refused("both wrong: setPart", rich, BOUNDS, x -> x.setPart(12, 4));
        for (int wrong : new int[] {-1, 8, LEAST, MOST}) {
            refused("the class " + wrong, rich, ARGUMENT, x -> x.setClass(6, wrong, true));
            refused("no class " + wrong, rich, ARGUMENT, x -> x.setClass(1, wrong, false));
        }
        for (int wrong : new int[] {-1, 4, LEAST, MOST}) {
            refused("the state " + wrong, rich, ARGUMENT, x -> x.setState(1, wrong, true));
            refused("the part " + wrong, rich, ARGUMENT, x -> x.setPart(3, wrong == -1 ? -2 : wrong));
        }
        for (int wrong : new int[] {-1, 2, LEAST, MOST}) {
            refused("the attribute " + wrong, rich, ARGUMENT, x -> x.setAttribute(6, wrong, 1));
        }
        for (int wrong : new int[] {-2, 10, LEAST, MOST}) {
            refused("attribute 0 as " + wrong, rich, ARGUMENT, x -> x.setAttribute(6, 0, wrong));
            refused("attribute 1 as " + wrong, rich, ARGUMENT, x -> x.setAttribute(7, 1, wrong));
        }
    }

    private void questions() {
        for (int wrong : NO_ELEMENTS) {
            refused("shownParent of " + wrong, rich, BOUNDS, x -> x.shownParent(wrong));
            refused("isIn of " + wrong, rich, BOUNDS, x -> x.isIn(wrong));
        }
    }

    private void test() {
        int[][] arguments = {{-1, 0, 0}, {10, 0, 0}, {LEAST, 0, 0}, {MOST, 0, 0}, {KIND, -1, 0}, {KIND, 8, 0}, {CLASS, -1, 0},
            {CLASS, 8, 0}, {STATE, -1, 0}, {STATE, 4, 0}, {ATTRIBUTE, -1, 0}, {ATTRIBUTE, 2, 0}, {ATTRIBUTE, 0, -1},
            {ATTRIBUTE, 0, 10}, {NTH, -10, 0}, {NTH, 10, 0}, {NTH, 0, -10}, {NTH, 0, 10}, {NTH, LEAST, 0}, {NTH, 0, LEAST},
            {HAS, -1, 0}, {HAS, 4, 0}, {HAS, 4, 99}, {PART, -1, 0}, {PART, 4, 0}, {NOT, 2, 0}, {NOT, 3, 0}, {IS, 2, 0},
            {IS, 3, 0}, {HAS, BELOW, 2}, {HAS, LATER, 3}};
        for (int[] a : arguments) {
            refused("test " + a[0] + " " + a[1] + " " + a[2], rich, ARGUMENT, x -> x.test(a[0], a[1], a[2]));
            boolean hasHost = a[0] >= NOT && a[0] <= HAS && (a[0] == HAS ? a[2] : a[1]) < 4;
            if (!hasHost || a[0] == HAS && (a[1] < 0 || a[1] > 3)) {
                refused("first test " + a[0] + " " + a[1], fresh, ARGUMENT, x -> x.test(a[0], a[1], a[2]));
            }
        }
        for (int wrong : new int[] {-1, 6, 30, LEAST, MOST}) {
            refused("NOT of " + wrong, rich, BOUNDS, x -> x.test(NOT, wrong, 0));
            refused("IS of " + wrong, rich, BOUNDS, x -> x.test(IS, wrong, 0));
            refused("HAS of " + wrong, rich, BOUNDS, x -> x.test(HAS, CHILD, wrong));
        }
        refused("NOT without selectors", fresh, BOUNDS, x -> x.test(NOT, 0, 0));
        refused("a second PART", rich, STATES, x -> x.test(PART, 0, 0));
        refused("a second PART that is wrong", rich, ARGUMENT, x -> x.test(PART, 4, 0));
    }

    private void fullDraft() {
        for (int test = KIND; test <= PART; test++) {
            int kind = test;
            refused("a fifth test " + test, full, STATES, x -> x.test(kind, 0, 0));
        }
        refused("a fifth test that is none", full, ARGUMENT, x -> x.test(10, 0, 0));
        refused("a fifth test with a wrong kind", full, ARGUMENT, x -> x.test(KIND, 8, 0));
        refused("a fifth test of HOST", full, ARGUMENT, x -> x.test(NOT, 2, 0));
        refused("a fifth test of PART", full, ARGUMENT, x -> x.test(HAS, NEXT, 3));
        refused("a fifth test of no selector", full, BOUNDS, x -> x.test(IS, 30, 0));
    }

    private void join() {
        for (int wrong : new int[] {-1, 4, LEAST, MOST}) {
            refused("join " + wrong, fresh, ARGUMENT, x -> x.join(wrong));
            refused("join behind PART " + wrong, rich, ARGUMENT, x -> x.join(wrong));
            refused("a fifth compound " + wrong, full, ARGUMENT, x -> x.join(wrong));
        }
        refused("join behind PART", rich, STATES, x -> x.join(BELOW));
        refused("a fifth compound", full, STATES, x -> x.join(LATER));
    }

    private void select() {
        refused("a 31st selector", full, STATES, Cascadery::select);
    }

    private void selectors() {
        for (int wrong : new int[] {-1, 6, 30, LEAST, MOST}) {
            refused("weight " + wrong, rich, BOUNDS, x -> x.weight(wrong));
            refused("matches selector " + wrong, rich, BOUNDS, x -> x.matches(0, wrong, NONE));
            refused("allThat selector " + wrong, rich, BOUNDS, x -> x.allThat(wrong, NONE));
        }
        refused("weight without selectors", fresh, BOUNDS, x -> x.weight(0));
        refused("the 31st selector", full, BOUNDS, x -> x.weight(30));
        for (int wrong : NO_ELEMENTS) {
            refused("matches of " + wrong, rich, BOUNDS, x -> x.matches(wrong, 0, NONE));
            refused("matches in " + wrong, rich, BOUNDS, x -> x.matches(0, 0, wrong == -1 ? -2 : wrong));
            refused("allThat in " + wrong, rich, BOUNDS, x -> x.allThat(0, wrong == -1 ? -2 : wrong));
        }
        refused("matches without a shadow tree", rich, BOUNDS, x -> x.matches(0, 0, 0));
        refused("allThat without a shadow tree", rich, BOUNDS, x -> x.allThat(0, 11));
    }

    private void sheet() {
        for (int wrong : new int[] {-1, 3, LEAST, MOST}) {
            refused("sheet of the origin " + wrong, rich, ARGUMENT, x -> x.sheet(wrong, NONE, NONE));
            refused("a ninth of the origin " + wrong, full, ARGUMENT, x -> x.sheet(wrong, NONE, NONE));
        }
        for (int wrong : new int[] {-2, 4, LEAST, MOST}) {
            refused("sheet in the layer " + wrong, rich, ARGUMENT, x -> x.sheet(AUTHOR, NONE, wrong));
            refused("a ninth in the layer " + wrong, full, ARGUMENT, x -> x.sheet(AUTHOR, NONE, wrong));
        }
        for (int wrong : new int[] {-2, 12, 30, LEAST, MOST}) {
            refused("sheet in " + wrong, rich, BOUNDS, x -> x.sheet(AUTHOR, wrong, NONE));
        }
        refused("sheet without a shadow tree", rich, BOUNDS, x -> x.sheet(AUTHOR, 1, NONE));
        refused("a wrong origin without a shadow tree", rich, ARGUMENT, x -> x.sheet(3, 1, NONE));
        refused("a wrong layer without a shadow tree", rich, ARGUMENT, x -> x.sheet(AUTHOR, 1, 4));
        refused("a ninth without a shadow tree", full, BOUNDS, x -> x.sheet(AUTHOR, 1, NONE));
        refused("a ninth", full, STATES, x -> x.sheet(AUTHOR, NONE, NONE));
    }

    private void turn() {
        for (int wrong : new int[] {-1, 3, 8, LEAST, MOST}) {
            refused("turn " + wrong, rich, BOUNDS, x -> x.turn(wrong, false));
        }
        refused("turn 8", full, BOUNDS, x -> x.turn(8, false));
        refused("turn without sheets", fresh, BOUNDS, x -> x.turn(0, true));
    }

    private void rule() {
        for (int wrong : new int[] {-1, 3, LEAST, MOST}) {
            refused("rule of sheet " + wrong, rich, BOUNDS, x -> x.rule(wrong, 0));
        }
        for (int wrong : new int[] {-1, 6, LEAST, MOST}) {
            refused("rule of selector " + wrong, rich, BOUNDS, x -> x.rule(0, wrong));
        }
        refused("a 41st of no sheet", full, BOUNDS, x -> x.rule(8, 0));
        refused("a 41st of no selector", full, BOUNDS, x -> x.rule(0, 30));
        refused("a 41st", full, STATES, x -> x.rule(0, 0));
    }

    private void when() {
        for (int wrong : new int[] {-1, 5, 100, LEAST, MOST}) {
            refused("when of " + wrong, rich, BOUNDS, x -> x.when(wrong, WIDE, 0));
        }
        refused("when, all wrong", rich, BOUNDS, x -> x.when(5, 5, 10000));
        refused("when of rule 40", full, BOUNDS, x -> x.when(40, WIDE, 0));
        for (int wrong : new int[] {-2, 5, LEAST, MOST}) {
            refused("the condition " + wrong, rich, ARGUMENT, x -> x.when(1, wrong, 0));
        }
        for (int wrong : new int[] {-10000, 10000, LEAST, MOST}) {
            for (int condition = NONE; condition <= KNOWN; condition++) {
                int c = condition;
                refused("the condition " + c + " with " + wrong, rich, ARGUMENT, x -> x.when(1, c, wrong));
            }
        }
    }

    private void declare() {
        for (int wrong : new int[] {-1, 5, 40, 99, 112, 130, LEAST, MOST}) {
            refused("declare in " + wrong, rich, BOUNDS, x -> x.declare(wrong, TINT, PLAIN, 1, false));
            refused("declare in " + wrong + ", all wrong", rich, BOUNDS, x -> x.declare(wrong, 16, 11, 10000, false));
        }
        for (int block : new int[] {0, 101}) {
            for (int wrong : new int[] {-1, 16, LEAST, MOST}) {
                refused("the property " + wrong, rich, ARGUMENT, x -> x.declare(block, wrong, INITIAL, 1, false));
                refused("the unit " + wrong, rich, ARGUMENT, x -> x.declare(block, 12, wrong == 16 ? 11 : wrong, 1, false));
            }
            for (int wrong : new int[] {-10000, 10000, LEAST, MOST}) {
                refused("the number " + wrong, rich, ARGUMENT, x -> x.declare(block, GAP, PX, wrong, true));
            }
            refused("PX for TINT", rich, ARGUMENT, x -> x.declare(block, TINT, PX, 1, true));
            refused("PLAIN for GAP", rich, ARGUMENT, x -> x.declare(block, GAP, PLAIN, 1, true));
            refused("PERCENT for GAP and EDGE", rich, ARGUMENT, x -> x.declare(block, 15, PERCENT, 1, true));
            refused("AUTO for SIZE", rich, ARGUMENT, x -> x.declare(block, SIZE, AUTO, 1, true));
        }
    }

    private void declareVar() {
        for (int wrong : new int[] {-1, 5, 40, 99, 112, 130, LEAST, MOST}) {
            refused("declareVar in " + wrong, rich, BOUNDS, x -> x.declareVar(wrong, TINT, 12, PLAIN, 1, false));
            refused("declareVar in " + wrong + ", all wrong", rich, BOUNDS, x -> x.declareVar(wrong, 16, 11, 7, 10000, false));
        }
        for (int block : new int[] {0, 101}) {
            for (int wrong : new int[] {-1, 16, LEAST, MOST}) {
                refused("VAR for " + wrong, rich, ARGUMENT, x -> x.declareVar(block, wrong, 12, NONE, 1, false));
            }
            for (int wrong : new int[] {-1, 0, 11, 15, LEAST, MOST}) {
                refused("the variable " + wrong, rich, ARGUMENT, x -> x.declareVar(block, TINT, wrong, NONE, 1, false));
            }
            for (int wrong : new int[] {-2, 7, 11, LEAST, MOST}) {
                refused("the second unit " + wrong, rich, ARGUMENT, x -> x.declareVar(block, TINT, 12, wrong, 1, false));
            }
            for (int wrong : new int[] {-10000, 10000, LEAST, MOST}) {
                refused("the second number " + wrong, rich, ARGUMENT, x -> x.declareVar(block, TINT, 12, PLAIN, wrong, false));
                refused("the number of none " + wrong, rich, ARGUMENT, x -> x.declareVar(block, TINT, 12, NONE, wrong, false));
            }
        }
    }

    private void undeclare() {
        for (int wrong : new int[] {-1, 5, 40, 99, 112, 130, LEAST, MOST}) {
            refused("undeclare in " + wrong, rich, BOUNDS, x -> x.undeclare(wrong, TINT));
            refused("undeclare in " + wrong + ", both wrong", rich, BOUNDS, x -> x.undeclare(wrong, 16));
        }
        for (int wrong : new int[] {-1, 16, LEAST, MOST}) {
            refused("undeclare " + wrong, rich, ARGUMENT, x -> x.undeclare(0, wrong));
            refused("undeclare own " + wrong, rich, ARGUMENT, x -> x.undeclare(101, wrong));
        }
    }

    private void setWidth() {
        for (int wrong : new int[] {-1, 10000, LEAST, MOST}) {
            refused("setWidth " + wrong, rich, ARGUMENT, x -> x.setWidth(wrong));
        }
    }

    private void value() {
        for (int wrong : NO_ELEMENTS) {
            refused("value of " + wrong, rich, BOUNDS, x -> x.value(wrong, 0));
            refused("value of " + wrong + ", both wrong", rich, BOUNDS, x -> x.value(wrong, 15));
        }
        for (int wrong : new int[] {-1, 15, LEAST, MOST}) {
            refused("value " + wrong, rich, ARGUMENT, x -> x.value(1, wrong));
            refused("value " + wrong + " of a loose one", rich, ARGUMENT, x -> x.value(11, wrong));
        }
        for (int out : new int[] {8, 9, 10, 11}) {
            refused("value of the loose " + out, rich, STATES, x -> x.value(out, 0));
        }
    }

    private void sizeAndMade() {
        for (int wrong : NO_ELEMENTS) {
            refused("size of " + wrong, rich, BOUNDS, x -> x.size(wrong));
            refused("made of " + wrong, rich, BOUNDS, x -> x.made(wrong));
        }
        for (int out : new int[] {8, 9, 10, 11}) {
            refused("size of the loose " + out, rich, STATES, x -> x.size(out));
            refused("made of the loose " + out, rich, STATES, x -> x.made(out));
        }
    }

    private void seen() {
        for (int wrong : NO_ELEMENTS) {
            refused("seen of " + wrong, rich, BOUNDS, x -> x.seen(wrong, 0));
            refused("seen of " + wrong + ", both wrong", rich, BOUNDS, x -> x.seen(wrong, 5));
        }
        for (int wrong : new int[] {-1, 5, LEAST, MOST}) {
            refused("seen " + wrong, rich, ARGUMENT, x -> x.seen(1, wrong));
            refused("seen " + wrong + " of a loose one", rich, ARGUMENT, x -> x.seen(11, wrong));
        }
        for (int out : new int[] {8, 9, 10, 11}) {
            refused("seen of the loose " + out, rich, STATES, x -> x.seen(out, 4));
        }
    }

    private void why() {
        for (int wrong : NO_ELEMENTS) {
            refused("why of " + wrong, rich, BOUNDS, x -> x.why(wrong, 0, 0));
            refused("why of " + wrong + ", all wrong", rich, BOUNDS, x -> x.why(wrong, 15, 5));
        }
        for (int wrong : new int[] {-1, 5, 40, 100, LEAST, MOST}) {
            refused("why of the rule " + wrong, rich, BOUNDS, x -> x.why(1, 0, wrong));
            refused("why of the rule " + wrong + ", all wrong", rich, BOUNDS, x -> x.why(11, 15, wrong));
        }
        for (int wrong : new int[] {-1, 15, LEAST, MOST}) {
            refused("why " + wrong, rich, ARGUMENT, x -> x.why(1, wrong, 0));
            refused("why " + wrong + " of a loose one", rich, ARGUMENT, x -> x.why(11, wrong, 0));
        }
        for (int out : new int[] {8, 9, 10, 11}) {
            refused("why of the loose " + out, rich, STATES, x -> x.why(out, 14, 0));
        }
    }

    private void valueAnew() {
        for (int wrong : NO_ELEMENTS) {
            refused("valueAnew of " + wrong, rich, BOUNDS, x -> x.valueAnew(wrong, 0));
            refused("valueAnew of " + wrong + ", both wrong", rich, BOUNDS, x -> x.valueAnew(wrong, 15));
        }
        for (int wrong : new int[] {-1, 15, LEAST, MOST}) {
            refused("valueAnew " + wrong, rich, ARGUMENT, x -> x.valueAnew(1, wrong));
            refused("valueAnew " + wrong + " of a loose one", rich, ARGUMENT, x -> x.valueAnew(11, wrong));
        }
        for (int out : new int[] {8, 9, 10, 11}) {
            refused("valueAnew of the loose " + out, rich, STATES, x -> x.valueAnew(out, 14));
        }
    }

    private void ticks() {
        for (int wrong : new int[] {0, -1, 1001, LEAST, MOST}) {
            refused("tick " + wrong, rich, ARGUMENT, x -> x.tick(wrong));
            refused("the length " + wrong, rich, ARGUMENT, x -> x.animation(1, wrong, 1, false));
        }
        for (int wrong : new int[] {0, -1, 101, LEAST, MOST}) {
            refused("the rounds " + wrong, rich, ARGUMENT, x -> x.animation(1, 1, wrong, false));
        }
        for (int wrong : new int[] {-1, 4, LEAST, MOST}) {
            refused("the animation " + wrong, rich, ARGUMENT, x -> x.animation(wrong, 1, 1, false));
            refused("a frame of " + wrong, rich, ARGUMENT, x -> x.frame(wrong, TINT, 0, 0));
            refused("a frame for " + wrong, rich, ARGUMENT, x -> x.frame(1, wrong == 4 ? 5 : wrong, 0, 0));
            refused("a frame at " + wrong, rich, ARGUMENT, x -> x.frame(1, TINT, wrong == 4 ? 11 : wrong, 0));
        }
        for (int wrong : new int[] {-10000, 10000, LEAST, MOST}) {
            refused("a frame with " + wrong, rich, ARGUMENT, x -> x.frame(1, TINT, 5, wrong));
        }
    }

    private void listen() {
        for (int wrong : NO_ELEMENTS) {
            refused("listen to " + wrong, rich, BOUNDS, x -> x.listen(wrong, 0, 0, 0));
            refused("listen for " + wrong, rich, BOUNDS, x -> x.listen(0, 0, wrong, 0));
            refused("listen, all wrong " + wrong, rich, BOUNDS, x -> x.listen(0, 15, wrong, 8));
        }
        for (int wrong : new int[] {-1, 15, LEAST, MOST}) {
            refused("listen to the property " + wrong, rich, ARGUMENT, x -> x.listen(1, wrong, 1, 0));
            refused("listen for the class " + wrong, rich, ARGUMENT, x -> x.listen(1, 0, 1, wrong == 15 ? 8 : wrong));
            refused("a seventh with the property " + wrong, full, ARGUMENT, x -> x.listen(1, wrong, 1, 0));
        }
        refused("a seventh of no element", full, BOUNDS, x -> x.listen(0, 0, 30, 0));
        refused("a seventh", full, STATES, x -> x.listen(0, 0, 0, 0));
    }
}
