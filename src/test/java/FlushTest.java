/** Promises 33 to 36 and 40: what edits mark, what flushes restyle, what counts as shared, and listeners. */
public final class FlushTest extends TestBase {
    private static final int ALL = (1 << 10) - 1;

    private FlushTest() {
        super("FlushTest");
    }

    public static void main(String[] args) {
        FlushTest test = new FlushTest();
        test.firstFlush();
        test.nearMarks();
        test.featureMarks();
        test.farMarks();
        test.slotMarks();
        test.moveMarks();
        test.orderMarks();
        test.ownMarks();
        test.allMarks();
        test.looseEdits();
        test.restyles();
        test.holderChanges();
        test.shares();
        test.wrongListeners();
        test.listeners();
        test.circles();
        test.check.end();
    }

    /** 0 has 1, 2, 3; 2 has 4 and a shadow tree with 5 and 6; 6 has 7 and a shadow tree with 8; 3 has 9; 10 is loose. */
    private static Cascadery forest() {
        Cascadery x = new Cascadery();
        for (int e = 1; e <= 10; e++) {
            x.make(e == 5 ? 7 : 1);
        }
        for (int e = 1; e <= 3; e++) {
            x.put(e, 0, e - 1);
        }
        x.put(4, 2, 0);
        x.shadow(2);
        x.putTop(5, 2, 0);
        x.putTop(6, 2, 1);
        x.put(7, 6, 0);
        x.shadow(6);
        x.putTop(8, 6, 0);
        x.put(9, 3, 0);
        x.sheet(Cascadery.AUTHOR, -1, -1);
        return x;
    }

    /** The forest with a rule that has the selector, and nothing marked. */
    private static Cascadery ruled(int... row) {
        Cascadery x = forest();
        x.rule(0, selected(x, row));
        x.value(0, 0);
        return x;
    }

    private void firstFlush() {
        Cascadery x = new Cascadery();
        check.due("nothing is marked at first", x.marked(), 0);
        x.value(0, 0);
        check.due("but 0 has no values", x.flushes() * 10 + x.restyled(), 11);
        x.value(0, 0);
        x.size(0);
        x.seen(0, 0);
        x.made(0);
        check.due("no more flushes without marks", x.flushes(), 1);
        x.make(1);
        x.value(0, 0);
        check.due("a loose one does not matter", x.flushes(), 1);
        x.put(1, 0, 0);
        check.due("put", x.marked(), 2);
        x.made(0);
        check.due("it is restyled", x.flushes() * 10 + x.restyled(), 22);
        x.setWidth(1000);
        x.size(1);
        check.due("size reads", x.flushes(), 3);
        x.setWidth(1000);
        x.seen(1, 0);
        check.due("seen reads", x.flushes(), 4);
        x.setWidth(1000);
        x.tick(5);
        x.valueAnew(0, 0);
        x.shownParent(1);
        check.due("others do not", x.flushes(), 4);
        check.due("all are marked", x.marked(), 3);
    }

    private void nearMarks() {
        Cascadery x = ruled(KIND, 1, 0, JOIN, 0, 0, CLASS, 2, 0, STATE, 1, 0, ATTRIBUTE, 0, 5);
        x.setClass(3, 1, true);
        check.due("a class of no test", x.marked(), 0);
        x.setClass(3, 2, false);
        check.due("a class of a test, though all is as it was", x.marked(), set(3));
        x.setState(9, 1, true);
        check.due("a state", x.marked(), set(3, 9));
        x.setAttribute(7, 0, 1);
        check.due("an attribute in another tree", x.marked(), set(3, 7, 9));
        x.setAttribute(1, 1, 1);
        check.due("the other attribute", x.marked(), set(3, 7, 9));
        x.setState(1, 2, true);
        check.due("another state", x.marked(), set(3, 7, 9));
        x.turn(0, false);
        x.value(0, 0);
        x.setClass(1, 2, true);
        check.due("rules of sheets that are off count", x.marked(), set(1));
        Cascadery y = forest();
        int simple = selected(y, CLASS, 2, 0);
        int inner = selected(y, NOT, simple, 0);
        y.rule(0, selected(y, IS, inner, 0));
        y.value(0, 0);
        y.setClass(4, 2, true);
        check.due("in NOT in IS", y.marked(), set(4));
        Cascadery z = forest();
        selected(z, CLASS, 2, 0);
        z.value(0, 0);
        z.setClass(4, 2, true);
        check.due("a selector of no rule", z.marked(), 0);
    }

    /** Classes, states and attributes are told apart, whatever their numbers. */
    private void featureMarks() {
        int[][] features = new int[14][];
        for (int i = 0; i < 14; i++) {
            features[i] = i < 8 ? new int[] {CLASS, i, 0} : i < 12 ? new int[] {STATE, i - 8, 0} : new int[] {ATTRIBUTE, i - 12, 3};
        }
        for (int[] tested : features) {
            Cascadery x = ruled(tested);
            for (int[] changed : features) {
                x.value(0, 0);
                if (changed[0] == CLASS) {
                    x.setClass(1, changed[1], true);
                } else if (changed[0] == STATE) {
                    x.setState(1, changed[1], true);
                } else {
                    x.setAttribute(1, changed[1], 3);
                }
                check.due("test " + tested[0] + " " + tested[1] + ", change " + changed[0] + " " + changed[1],
                        x.marked(), tested == changed ? 2 : 0);
            }
        }
    }

    private void farMarks() {
        int document = set(0, 1, 2, 3, 4, 9) | set(5, 6, 7);
        int shadow = set(5, 6, 7) | set(2) | set(8);
        int deep = set(8) | set(6);
        Cascadery x = ruled(CLASS, 2, 0, JOIN, 0, 0);
        checkFar("another compound", x, document, shadow, deep);
        Cascadery y = forest();
        int simple = selected(y, CLASS, 2, 0);
        y.rule(0, selected(y, HAS, 3, simple));
        checkFar("HAS", y, document, shadow, deep);
        Cascadery z = forest();
        int row = selected(z, JOIN, 1, 0, CLASS, 2, 0);
        z.rule(0, selected(z, NOT, row, 0));
        checkFar("NOT with several compounds", z, document, shadow, deep);
        checkFar("HOST", ruled(HOST, 0, 0, CLASS, 2, 0), document, shadow, deep);
        checkFar("PART", ruled(CLASS, 2, 0, PART, 0, 0), document, shadow, deep);
        Cascadery w = forest();
        int near = selected(w, CLASS, 2, 0);
        int has = selected(w, HAS, 0, near);
        w.rule(0, selected(w, IS, has, 0));
        checkFar("HAS in IS", w, document, shadow, deep);
        Cascadery v = forest();
        selected(v, CLASS, 2, 0);
        selected(v, HAS, 0, 0);
        int other = selected(v, KIND, 1, 0);
        v.rule(0, selected(v, IS, 1, 0, NOT, other, 0, NOT, 0, 0));
        checkFar("HAS in the first of three", v, document, shadow, deep);
        Cascadery t = forest();
        selected(t, CLASS, 2, 0);
        int third = selected(t, KIND, 1, 0);
        t.rule(0, selected(t, HAS, 0, 0, HAS, 0, third));
        t.rule(0, third);
        checkFar("the first HAS of the first rule", t, document, shadow, deep);
        Cascadery u = forest();
        selected(u, CLASS, 2, 0, JOIN, 2, 0);
        u.rule(0, selected(u, NOT, 0, 0, JOIN, 0, 0, KIND, 1, 0, JOIN, 1, 0, STATE, 2, 0));
        checkFar("in NOT in another compound", u, document, shadow, deep);
    }

    private void checkFar(String what, Cascadery x, int document, int shadow, int deep) {
        int[] elements = {9, 5, 8};
        int[] wanted = {document, shadow, deep};
        for (int i = 0; i < elements.length; i++) {
            x.value(0, 0);
            x.setClass(elements[i], 2, true);
            check.due(what + ": of element " + elements[i], x.marked(), wanted[i]);
        }
    }

    private void slotMarks() {
        Cascadery x = forest();
        x.value(0, 0);
        x.setAttribute(1, 1, 2);
        check.due("attribute 1 of what is no child of a host", x.marked(), 0);
        x.setAttribute(4, 0, 2);
        check.due("attribute 0", x.marked(), 0);
        x.setAttribute(4, 1, 2);
        check.due("all below the host of whom it is a child", x.marked(), set(4, 5, 6, 7, 8));
        x.value(0, 0);
        x.setAttribute(8, 1, -1);
        check.due("all below the host of its tree", x.marked(), set(7, 8));
        x.value(0, 0);
        x.setAttribute(7, 1, 2);
        check.due("both", x.marked(), set(4, 5, 6, 7, 8));
    }

    private void moveMarks() {
        Cascadery x = forest();
        x.value(0, 0);
        x.put(10, 0, 0);
        check.due("put marks it", x.marked(), set(10));
        x.value(0, 0);
        x.take(10);
        check.due("take marks nothing", x.marked(), 0);
        x.take(3);
        x.put(3, 1, 0);
        check.due("with all below", x.marked(), set(3, 9));
        x.value(0, 0);
        x.put(10, 2, 0);
        check.due("below a host", x.marked(), set(4, 5, 6, 7, 8, 10));
        x.value(0, 0);
        x.take(10);
        check.due("what was below a host", x.marked(), set(4, 5, 6, 7, 8));
        x.value(0, 0);
        x.putTop(10, 6, 1);
        check.due("in a shadow tree", x.marked(), set(7, 8, 10));
        x.value(0, 0);
        x.take(8);
        check.due("out of a shadow tree", x.marked(), set(7, 10));
        x.value(0, 0);
        x.take(2);
        check.due("with its shadow tree", x.marked(), 0);
        x.put(2, 0, 0);
        check.due("and back", x.marked(), set(2, 4, 5, 6, 7, 10));
        check.state("what is out has no values", () -> x.value(8, 0));
    }

    private void orderMarks() {
        int[][] rows = {{NTH, 1, 1}, {JOIN, 2, 0}, {JOIN, 3, 0}, {NTH, 0, 1, KIND, 1, 0}, {JOIN, 2, 0, JOIN, 0, 0}};
        for (int[] row : rows) {
            Cascadery x = ruled(row);
            x.put(10, 0, 2);
            check.due("siblings behind it, with all below", x.marked(), set(3, 9, 10));
            x.value(0, 0);
            x.take(1);
            check.due("where it was", x.marked(), set(2, 3, 4, 5, 6, 7, 8, 9, 10));
            x.value(0, 0);
            x.take(3);
            check.due("none behind the last one", x.marked(), 0);
        }
        Cascadery y = forest();
        int nth = selected(y, NTH, 1, 1);
        y.rule(0, selected(y, NOT, nth, 0));
        y.value(0, 0);
        y.take(1);
        check.due("in NOT", y.marked(), set(2, 3, 4, 5, 6, 7, 8, 9));
        Cascadery z = forest();
        int simple = selected(z, KIND, 0, 0);
        int has = selected(z, HAS, 0, simple);
        z.rule(0, selected(z, KIND, 6, 0, JOIN, 0, 0, IS, has, 0));
        z.value(0, 0);
        z.take(9);
        check.due("all for HAS", z.marked(), ALL & ~set(9));
        z.value(0, 0);
        z.put(9, 10, 0);
        check.due("all, wherever it is put", z.marked(), ALL & ~set(9));
    }

    private void ownMarks() {
        Cascadery x = forest();
        x.value(0, 0);
        x.declare(103, TINT, PLAIN, 0, false);
        check.due("declare", x.marked(), set(3));
        x.declareVar(104, TINT, 12, -1, 0, false);
        check.due("declareVar", x.marked(), set(3, 4));
        x.undeclare(105, TINT);
        check.due("undeclare, though nothing was declared", x.marked(), set(3, 4, 5));
        x.setPart(6, -1);
        check.due("setPart, though there was none", x.marked(), set(3, 4, 5, 6));
        x.declare(110, TINT, PLAIN, 1, false);
        check.due("not what is out", x.marked(), set(3, 4, 5, 6));
    }

    private void allMarks() {
        Cascadery x = forest();
        selected(x);
        Check.Acting[] edits = {() -> x.rule(0, 0), () -> x.sheet(0, -1, -1), () -> x.turn(1, true),
            () -> x.when(0, -1, 0), () -> x.declare(0, TINT, PLAIN, 0, false), () -> x.declareVar(0, TINT, 12, -1, 0, false),
            () -> x.undeclare(0, 15), () -> x.setWidth(1000), () -> x.shadow(10)};
        for (int i = 0; i < edits.length; i++) {
            x.value(0, 0);
            edits[i].act();
            check.due("all by edit " + i, x.marked(), ALL);
        }
        x.value(0, 0);
        x.make(1);
        x.animation(0, 1, 1, true);
        x.frame(0, 0, 0, 0);
        x.listen(0, 0, 0, 0);
        x.select();
        check.due("other calls mark nothing", x.marked(), 0);
        check.argument("what throws", () -> x.declare(0, TINT, PX, 0, false));
        check.argument("what throws, too", () -> x.setWidth(-1));
        check.due("marks nothing", x.marked(), 0);
    }

    private void looseEdits() {
        Cascadery x = ruled(CLASS, 2, 0, JOIN, 0, 0, CLASS, 3, 0);
        x.setClass(10, 2, true);
        x.setClass(10, 3, true);
        x.setAttribute(10, 1, 3);
        x.setPart(10, 1);
        check.due("edits of loose ones mark nothing", x.marked(), 0);
        x.put(10, 1, 0);
        check.due("until they are put", x.marked(), set(10));
    }

    private void restyles() {
        Cascadery x = forest();
        x.value(0, 0);
        check.due("all once", x.restyled(), 10);
        x.declare(102, TINT, PLAIN, 5, false);
        x.value(0, 0);
        check.due("a change goes to all below", x.restyled(), 16);
        x.declare(102, TINT, PLAIN, 5, true);
        x.value(0, 0);
        check.due("without a change it does not", x.restyled(), 17);
        x.declare(102, 12, PX, 0, true);
        x.value(0, 0);
        check.due("variables count", x.restyled(), 23);
        x.declare(102, 12, PLAIN, 0, true);
        x.value(0, 0);
        check.due("with their units", x.restyled(), 29);
        x.declare(102, 12, Cascadery.AUTO, 5, true);
        x.value(0, 0);
        x.declare(102, 12, Cascadery.AUTO, 6, true);
        x.value(0, 0);
        check.due("AUTO has no number", x.restyled(), 36);
        x.take(9);
        x.put(9, 3, 0);
        x.value(0, 0);
        check.due("what comes back gets its values anew", x.restyled(), 37);
        x.take(3);
        x.value(0, 0);
        x.put(3, 0, 0);
        x.take(3);
        x.value(0, 0);
        check.due("what is out is not restyled", x.restyled(), 37);
    }

    private void holderChanges() {
        Cascadery x = forest();
        x.declare(103, Cascadery.HOLDS, PLAIN, 1, false);
        x.declare(103, SPAN, Cascadery.AUTO, 1, false);
        x.put(10, 9, 0);
        x.value(0, 0);
        int before = x.restyled();
        x.declare(110, SPAN, PX, 5, false);
        x.value(0, 0);
        check.due("not a shown child: no other size", x.restyled(), before + 1);
        x.declare(109, Cascadery.GAP, PX, 5, false);
        check.due("the size", x.size(3), 10);
        check.due("another size goes to all below", x.restyled(), before + 3);
        x.declare(109, Cascadery.EDGE, PX, 5, false);
        x.value(0, 0);
        check.due("the child has changed", x.restyled(), before + 5);
        x.declare(109, Cascadery.EDGE, PX, 5, false);
        x.value(0, 0);
        check.due("nothing has changed", x.restyled(), before + 6);
    }

    private static Cascadery row() {
        Cascadery x = new Cascadery();
        for (int e = 1; e <= 4; e++) {
            x.make(1);
            x.put(e, 0, e - 1);
        }
        x.sheet(0, -1, -1);
        selected(x, CLASS, 0, 0);
        x.rule(0, 0);
        return x;
    }

    private int sharedBy(Cascadery x) {
        int before = x.shared();
        x.setWidth(1000);
        x.value(0, 0);
        return x.shared() - before;
    }

    private void shares() {
        Cascadery x = row();
        check.due("three like the one ahead", sharedBy(x), 3);
        x.setClass(2, 5, true);
        check.due("a class", sharedBy(x), 1);
        x.setClass(2, 5, false);
        x.setState(3, 3, true);
        check.due("a state", sharedBy(x), 1);
        x.setState(3, 3, false);
        x.setAttribute(4, 0, 0);
        check.due("attribute 0", sharedBy(x), 2);
        x.setAttribute(4, 0, -1);
        x.setAttribute(1, 1, 0);
        check.due("attribute 1", sharedBy(x), 2);
        x.setAttribute(1, 1, -1);
        x.setPart(2, 0);
        check.due("a part", sharedBy(x), 1);
        x.setPart(2, -1);
        x.declare(101, 14, PLAIN, 0, false);
        check.due("a declaration of the one ahead", sharedBy(x), 2);
        x.undeclare(101, 14);
        x.declare(104, 14, PLAIN, 0, false);
        check.due("a declaration of its own", sharedBy(x), 2);
        x.undeclare(104, 14);
        check.due("all alike again", sharedBy(x), 3);
        int before = x.shared();
        x.setClass(2, 0, true);
        x.setClass(2, 0, false);
        x.value(0, 0);
        check.due("the one ahead was not restyled", x.shared(), before);
        x.setClass(3, 0, false);
        x.setClass(2, 0, false);
        x.value(0, 0);
        check.due("it was restyled", x.shared(), before + 1);
        x.shadow(3);
        check.due("a shadow tree", sharedBy(x), 1);
        x.shadow(0);
        x.make(7);
        x.putTop(5, 0, 0);
        check.due("the same slot", sharedBy(x), 1);
        x.take(5);
        int[][] rows = {{NTH, 0, 1}, {JOIN, 2, 0}, {JOIN, 3, 0}, {HAS, 0, 0}};
        for (int[] each : rows) {
            Cascadery y = row();
            int s = selected(y, each);
            check.due("a selector of no rule", sharedBy(y), 3);
            y.rule(0, selected(y, IS, s, 0, JOIN, 1, 0, IS, 0, 0, KIND, 1, 0));
            y.rule(0, 0);
            check.due("NTH, NEXT, LATER or HAS inside one of a rule", sharedBy(y), 0);
        }
    }

    private void wrongListeners() {
        Cascadery x = new Cascadery();
        for (int wrong : new int[] {-1, 1, 30, Integer.MIN_VALUE, Integer.MAX_VALUE}) {
            check.bounds("listen to " + wrong, () -> x.listen(wrong, 99, 0, 99));
            check.bounds("listen for " + wrong, () -> x.listen(0, 99, wrong, 99));
        }
        for (int wrong : new int[] {-1, 15, Integer.MIN_VALUE, Integer.MAX_VALUE}) {
            check.argument("listen to the property " + wrong, () -> x.listen(0, wrong, 0, 0));
            check.argument("listen with the class " + wrong, () -> x.listen(0, 0, 0, wrong == 15 ? 8 : wrong));
        }
        for (int i = 0; i < 6; i++) {
            check.due("listen", x.listen(0, 14, 0, 7), i);
        }
        check.state("a seventh", () -> x.listen(0, 0, 0, 0));
        check.argument("a seventh with a wrong class", () -> x.listen(0, 0, 0, 8));
    }

    private void listeners() {
        Cascadery x = row();
        x.listen(1, TINT, 2, 3);
        x.listen(1, TINT, 2, 4);
        x.listen(1, TINT, 2, 4);
        x.value(0, 0);
        check.due("not by values for the first time", x.setClass(2, 3, false), false);
        x.declare(101, TINT, PLAIN, 5, false);
        check.due("not ahead of the flush", x.setClass(2, 3, false), false);
        x.value(0, 0);
        check.due("the class is given", x.setClass(2, 3, true), true);
        check.due("given and taken by two", x.setClass(2, 4, false), false);
        x.declare(101, TINT, PLAIN, 6, false);
        x.value(0, 0);
        check.due("the class is taken", x.setClass(2, 3, false), false);
        x.declare(101, SPAN, PX, 6, false);
        x.value(0, 0);
        check.due("another property", x.setClass(2, 3, false), false);
        x.take(1);
        x.put(1, 0, 0);
        x.value(0, 0);
        check.due("values for the first time again", x.setClass(2, 3, false), false);
        x.take(1);
        x.setWidth(999);
        x.value(0, 0);
        check.due("out of the document", x.setClass(2, 3, false), false);
        Cascadery y = row();
        y.declare(0, TINT, PLAIN, 9, false);
        y.listen(1, TINT, 2, 0);
        y.value(0, 0);
        y.declare(101, TINT, PLAIN, 1, false);
        check.due("a further flush in the same reading", y.value(2, TINT), 9);
        check.due("two flushes", y.flushes(), 3);
        check.due("an edit that marks nothing leads to none", y.marked(), 0);
    }

    private void circles() {
        Cascadery x = row();
        x.declare(0, TINT, PLAIN, 9, false);
        x.listen(1, TINT, 1, 0);
        x.value(0, 0);
        check.due("one flush", x.flushes(), 1);
        x.setClass(1, 0, true);
        check.due("the fourth flush takes the class again", x.value(1, TINT), 0);
        check.due("four flushes", x.flushes(), 5);
        check.due("what is left marked", x.marked(), 2);
        check.due("why goes by the class of now", x.why(1, TINT, 0), 0);
        check.due("the values do not", x.value(1, TINT), 0);
        check.due("the class is given again", x.setClass(1, 0, true), true);
        check.due("anew it is another one", x.valueAnew(1, TINT), 9);
        check.due("the next reading goes on", x.value(2, TINT), 0);
        check.due("by four more each", x.flushes(), 17);
    }
}
