/** The edges of promises 33 to 36 and 40, and of what the document says of EDITS, FLUSHES and listeners. */
public final class FlushEdgesTest extends TestBase {
    private FlushEdgesTest() {
        super("FlushEdgesTest");
    }

    public static void main(String[] args) {
        FlushEdgesTest test = new FlushEdgesTest();
        test.firstReading();
        test.readers();
        test.noReaders();
        test.editsThatChangeNothing();
        test.noEdits();
        test.refusedEdits();
        test.nearFeatures();
        test.farFeatures();
        test.featuresOfSeveral();
        test.featuresOfNoRule();
        test.attribute1();
        test.looseElements();
        test.movesWithoutOrder();
        test.movesWithOrder();
        test.movesOfTops();
        test.movesWithHas();
        test.movesBelowHosts();
        test.ownDeclarations();
        test.allOthers();
        test.allOfThirty();
        test.changedAbove();
        test.changedUnits();
        test.changedSizes();
        test.valuesForTheFirstTime();
        test.sharedOrNot();
        test.sharedSelectors();
        test.sixListeners();
        test.argumentsOfListeners();
        test.propertiesOfListeners();
        test.toldListeners();
        test.listenersInOrder();
        test.atMostFourFlushes();
        test.endlessListeners();
        test.check.end();
    }

    /** "if some element in the document is marked, or has no values yet"; "Returns how many flushes there were." */
    private void firstReading() {
        Cascadery x = new Cascadery();
        check.due("nothing so far", x.marked() + x.flushes() + x.restyled() + x.shared(), 0);
        x.value(0, 0);
        check.due("one flush, as 0 has no values", x.flushes(), 1);
        check.due("one element", x.restyled(), 1);
        x.value(0, 0);
        check.due("none without marks", x.flushes(), 1);
        x.make(1);
        x.value(0, 0);
        check.due("a loose one needs no values", x.flushes(), 1);
        x.put(1, 0, 0);
        x.take(1);
        x.value(0, 0);
        check.due("what was put and taken neither", x.flushes(), 1);
        x.put(1, 0, 0);
        check.due("what is put is marked", x.marked(), set(1));
        x.value(0, 0);
        check.due("not element 0 again", x.restyled(), 2);
    }

    private static void read(Cascadery x, int reader) {
        switch (reader) {
            case 0:
                x.value(0, 14);
                break;
            case 1:
                x.size(0);
                break;
            case 2:
                x.seen(0, 4);
                break;
            case 3:
                x.made(0);
                break;
            default:
                x.why(0, 14, 0);
        }
    }

    private static Cascadery withRule() {
        Cascadery x = row(2);
        x.sheet(AUTHOR, NONE, NONE);
        ruled(x, 0, CLASS, 0, 0);
        return x;
    }

    /** "value, size, seen, made, why ...; these calls read"; "no element is marked then" */
    private void readers() {
        for (int reader = 0; reader < 5; reader++) {
            Cascadery x = withRule();
            read(x, reader);
            check.due("the first flush of reader " + reader, x.flushes(), 1);
            check.due("nothing is marked then", x.marked(), 0);
            read(x, reader);
            check.due("no second one", x.flushes(), 1);
            own(x, 2, TINT, PLAIN, 1);
            check.due("marked", x.marked(), set(2));
            read(x, reader);
            check.due("another one", x.flushes(), 2);
            check.due("nothing is marked again", x.marked(), 0);
            check.due("just the marked one", x.restyled(), 4);
        }
    }

    /** "values without reading"; "Nothing is read." */
    private void noReaders() {
        Cascadery x = withRule();
        x.value(0, 0);
        own(x, 2, TINT, PLAIN, 1);
        Check.Acting[] calls = {() -> x.valueAnew(2, TINT), x::marked, x::flushes, x::restyled, x::shared, () -> x.tick(1),
            () -> x.animation(0, 1, 1, true), () -> x.frame(0, 0, 0, 0), () -> x.listen(0, 0, 0, 7), () -> x.shownParent(2),
            () -> x.isIn(2), () -> x.test(KIND, 0, 0), () -> x.join(0), x::select, () -> x.weight(0),
            () -> x.matches(2, 0, NONE), () -> x.allThat(0, NONE), () -> x.make(0), () -> x.setClass(2, 0, true),
            () -> x.setState(2, 0, true), () -> x.setAttribute(2, 1, 0), () -> x.setPart(2, 0), () -> x.put(3, 2, 0),
            () -> x.take(3), () -> x.shadow(3), () -> x.sheet(0, NONE, NONE), () -> x.turn(1, false), () -> x.rule(1, 0),
            () -> x.when(1, 0, 0), () -> x.declare(1, 0, 0, 0, false), () -> x.declareVar(1, 0, 12, 0, 0, false),
            () -> x.undeclare(1, 0), () -> x.setWidth(4)};
        for (int i = 0; i < calls.length; i++) {
            calls[i].act();
            check.due("no flush by call " + i, x.flushes(), 1);
            check.due("still marked behind call " + i, x.marked() & set(2), set(2));
        }
    }

    /** "also when all is as it was behind them" */
    private void editsThatChangeNothing() {
        Cascadery x = withRule();
        ruled(x, 0, STATE, 0, 0);
        ruled(x, 0, ATTRIBUTE, 0, 0);
        x.declare(0, TINT, PLAIN, 1, true);
        x.declareVar(0, SIZE, 12, PX, 1, true);
        x.when(0, WIDE, 5);
        int all = set(0, 1, 2);
        Check.Acting[] edits = {() -> x.setClass(2, 0, false), () -> x.setState(2, 0, false), () -> x.setAttribute(2, 0, NONE),
            () -> x.setPart(2, NONE), () -> x.undeclare(102, TINT), () -> x.undeclare(102, 15),
            () -> x.turn(0, true), () -> x.when(0, WIDE, 5), () -> x.when(2, NONE, 0), () -> x.undeclare(1, 15),
            () -> x.declare(0, TINT, PLAIN, 1, true), () -> x.declareVar(0, SIZE, 12, PX, 1, true), () -> x.setWidth(1000)};
        for (int i = 0; i < edits.length; i++) {
            x.value(0, 0);
            int restyled = x.restyled();
            edits[i].act();
            check.due("marked by edit " + i, x.marked(), i < 6 ? set(2) : all);
            x.value(0, 0);
            check.due("restyled by edit " + i, x.restyled() - restyled, i < 6 ? 1 : 3);
        }
        Cascadery y = withRule();
        own(y, 2, TINT, PLAIN, 1);
        y.setClass(2, 0, true);
        y.value(0, 0);
        own(y, 2, TINT, PLAIN, 1);
        check.due("the same declaration", y.marked(), set(2));
        y.value(0, 0);
        y.setClass(2, 0, true);
        check.due("a class that it has", y.marked(), set(2));
    }

    /** Calls that are not told among the edits mark nothing. */
    private void noEdits() {
        Cascadery x = withRule();
        x.value(0, 0);
        x.make(7);
        draft(x, HAS, CHILD, 0, JOIN, BELOW, 0, NTH, 1, 1);
        x.select();
        x.tick(1000);
        x.animation(3, 1, 1, true);
        x.frame(3, SIZE, 0, 1);
        x.listen(0, TINT, 1, 0);
        x.allThat(0, NONE);
        x.valueAnew(1, TINT);
        check.due("nothing is marked", x.marked(), 0);
        x.value(0, 0);
        check.due("so nothing is flushed", x.flushes(), 1);
    }

    /** "A method that throws an exception changes nothing." */
    private void refusedEdits() {
        Cascadery x = withRule();
        x.shadow(0);
        x.value(0, 0);
        check.bounds("put", () -> x.put(1, 0, 9));
        check.state("put", () -> x.put(1, 2, 0));
        check.bounds("putTop", () -> x.putTop(1, 2, 0));
        check.state("putTop", () -> x.putTop(1, 0, 0));
        check.state("take", () -> x.take(0));
        check.state("shadow", () -> x.shadow(0));
        check.argument("setClass", () -> x.setClass(1, 8, true));
        check.argument("setState", () -> x.setState(1, 4, true));
        check.argument("setAttribute", () -> x.setAttribute(1, 1, 10));
        check.argument("setPart", () -> x.setPart(1, 4));
        check.argument("sheet", () -> x.sheet(AUTHOR, NONE, 4));
        check.bounds("turn", () -> x.turn(1, true));
        check.bounds("rule", () -> x.rule(0, 1));
        check.argument("when", () -> x.when(0, WIDE, 10000));
        check.argument("declare", () -> x.declare(0, TINT, PX, 1, false));
        check.argument("declareVar", () -> x.declareVar(101, TINT, 15, NONE, 1, false));
        check.argument("undeclare", () -> x.undeclare(101, 16));
        check.argument("setWidth", () -> x.setWidth(10000));
        check.due("nothing is marked", x.marked(), 0);
        check.due("nothing is flushed", x.value(0, 0) + x.flushes(), 1);
    }

    private static final int[][] FEATURES = {{CLASS, 0}, {CLASS, 7}, {STATE, 0}, {STATE, 3}, {ATTRIBUTE, 0}, {ATTRIBUTE, 1}};

    /**
     * 0 has the children 1 and 2; 2 has 6; the host 1 has the top 3, which has 4; the host 4 has the top 5; 7 is loose.
     * Selectors: 0 tests the feature; 1 and 2 test it in the first and in the last of two compounds; 3 is NOT of 0,
     * 4 HAS 0, and 5 IS of 3. There is a sheet, and no rule.
     */
    private static Cascadery forest(int[] feature) {
        Cascadery x = loose(7);
        x.put(1, 0, 0);
        x.put(2, 0, 1);
        x.put(6, 2, 0);
        x.shadow(1);
        x.putTop(3, 1, 0);
        x.put(4, 3, 0);
        x.shadow(4);
        x.putTop(5, 4, 0);
        selected(x, feature[0], feature[1], 0);
        selected(x, feature[0], feature[1], 0, JOIN, CHILD, 0);
        selected(x, JOIN, CHILD, 0, feature[0], feature[1], 0);
        selected(x, NOT, 0, 0);
        selected(x, HAS, CHILD, 0);
        selected(x, IS, 3, 0);
        x.sheet(AUTHOR, NONE, NONE);
        return x;
    }

    private static void change(Cascadery x, int[] feature, int element) {
        if (feature[0] == CLASS) {
            x.setClass(element, feature[1], true);
        } else if (feature[0] == STATE) {
            x.setState(element, feature[1], true);
        } else {
            x.setAttribute(element, feature[1], 9);
        }
    }

    /** What attribute 1 marks in any case, in the forest. */
    private static int slotted(int[] feature, int element) {
        boolean isName = feature[0] == ATTRIBUTE && feature[1] == 1;
        return !isName || element == 2 || element == 7 ? 0 : element == 5 ? set(5) : set(3, 4, 5);
    }

    private void checkMarks(String what, int[] feature, int[] row, boolean isFar) {
        int[] elements = {2, 3, 5, 7};
        int[] far = {set(0, 1, 2, 3, 4, 6), set(1, 3, 4, 5), set(4, 5), 0};
        for (int i = 0; i < elements.length; i++) {
            Cascadery x = forest(feature);
            ruled(x, 0, row);
            x.value(0, 0);
            change(x, feature, elements[i]);
            int due = isFar ? far[i] : elements[i] == 7 ? 0 : 1 << elements[i];
            check.due(what + ", test " + feature[0] + " " + feature[1] + ", of " + elements[i], x.marked(),
                    due | slotted(feature, elements[i]));
        }
    }

    /** "this element, if some selector of a rule has a test of this ... in its last compound, be it ... in NOT or IS there" */
    private void nearFeatures() {
        for (int[] f : FEATURES) {
            int[][] rows = {{f[0], f[1], 0}, {KIND, 1, 0, KIND, 1, 0, KIND, 1, 0, f[0], f[1], 0}, {NOT, 0, 0}, {IS, 0, 0},
                {IS, 3, 0}, {NOT, 5, 0}, {KIND, 1, 0, JOIN, 0, 0, f[0], f[1], 0}, {NTH, 1, 1, JOIN, 2, 0, IS, 5, 0},
                {JOIN, 0, 0, JOIN, 1, 0, JOIN, 2, 0, KIND, 0, 0, f[0], f[1], 0}};
            for (int i = 0; i < rows.length; i++) {
                checkMarks("near " + i, f, rows[i], false);
            }
        }
    }

    /** "in another compound, or in HAS, or in a selector with several compounds in NOT or IS, or anywhere, if it has HOST or PART" */
    private void farFeatures() {
        for (int[] f : FEATURES) {
            int[][] rows = {{f[0], f[1], 0, JOIN, 0, 0}, {f[0], f[1], 0, JOIN, 1, 0, f[0], f[1], 0}, {NOT, 0, 0, JOIN, 2, 0},
                {JOIN, 1, 0, JOIN, 1, 0, f[0], f[1], 0, JOIN, 1, 0}, {IS, 5, 0, JOIN, 3, 0, KIND, 1, 0}, {HAS, BELOW, 0},
                {HAS, LATER, 3}, {IS, 4, 0}, {NOT, 4, 0, NOT, 0, 0}, {HAS, NEXT, 4}, {NOT, 1, 0}, {IS, 1, 0}, {NOT, 2, 0},
                {IS, 2, 0}, {HAS, CHILD, 2}, {HOST, 0, 0, f[0], f[1], 0}, {HOST, 0, 0, NOT, 0, 0}, {PART, 0, 0, f[0], f[1], 0},
                {HOST, 0, 0, JOIN, 0, 0, f[0], f[1], 0}, {f[0], f[1], 0, JOIN, 0, 0, HOST, 0, 0}, {IS, 5, 0, PART, 3, 0}};
            for (int i = 0; i < rows.length; i++) {
                checkMarks("far " + i, f, rows[i], true);
            }
        }
    }

    /** Several selectors inside of one, with different features: each of them counts. */
    private void featuresOfSeveral() {
        for (int[] f : FEATURES) {
            for (int[] other : FEATURES) {
                if (f != other) {
                    int[][] near = {{NOT, 0, 0, NOT, 6, 0}, {NOT, 6, 0, IS, 0, 0}, {KIND, 1, 0, JOIN, 0, 0, IS, 0, 0, IS, 6, 0}};
                    int[][] far = {{NOT, 0, 0, NOT, 6, 0, JOIN, 0, 0}, {NOT, 6, 0, NOT, 0, 0, JOIN, 0, 0},
                        {HAS, 0, 0, HAS, 0, 6}, {HAS, 0, 6, HAS, 0, 0}, {IS, 0, 0, NOT, 6, 0, HOST, 0, 0}};
                    for (int[] row : near) {
                        check.due("near", markedOf2(f, other, row), set(2));
                    }
                    for (int[] row : far) {
                        check.due("far", markedOf2(f, other, row), set(0, 1, 2, 3, 4, 6));
                    }
                }
            }
        }
    }

    /** What a change of the feature marks, when a selector has selectors inside that test it, and another feature. */
    private static int markedOf2(int[] feature, int[] other, int[] row) {
        Cascadery x = forest(feature);
        selected(x, other[0], other[1], 0);
        ruled(x, 0, row);
        x.value(0, 0);
        change(x, feature, 2);
        return x.marked();
    }

    /** "some selector of a rule"; "rules count whether their sheets are on or off" */
    private void featuresOfNoRule() {
        Cascadery x = forest(FEATURES[0]);
        x.value(0, 0);
        x.setClass(2, 0, true);
        check.due("of no rule", x.marked(), 0);
        x.sheet(AUTHOR, 1, NONE);
        x.rule(1, 0);
        x.turn(1, false);
        x.value(0, 0);
        x.setClass(2, 0, true);
        check.due("of a sheet that is off, in another tree", x.marked(), set(2));
        x.value(0, 0);
        x.setClass(2, 1, true);
        check.due("another class", x.marked(), 0);
        x.setState(2, 0, true);
        check.due("a state of that number", x.marked(), 0);
        x.setAttribute(2, 0, 0);
        check.due("an attribute of that number", x.marked(), 0);
        x.take(1);
        x.value(0, 0);
        x.setClass(2, 0, true);
        check.due("of a sheet whose tree is out of the document", x.marked(), set(2));
    }

    /** "the attribute 1, in any case, all below the host of whom the element is a child, and all below the host of the tree" */
    private void attribute1() {
        Cascadery x = forest(FEATURES[0]);
        x.make(1);
        x.put(8, 1, 0);
        x.make(1);
        x.put(9, 4, 0);
        int[][] rows = {{0, 0}, {1, 0}, {2, 0}, {6, 0}, {3, set(3, 4, 5, 8, 9)}, {4, set(3, 4, 5, 8, 9)}, {5, set(5, 9)},
            {8, set(3, 4, 5, 8, 9)}, {9, set(3, 4, 5, 8, 9)}, {7, 0}};
        for (int[] r : rows) {
            x.value(0, 0);
            x.setAttribute(r[0], 0, 3);
            check.due("attribute 0 of " + r[0], x.marked(), 0);
            x.setAttribute(r[0], 1, NONE);
            check.due("attribute 1 of " + r[0], x.marked(), r[1]);
        }
    }

    /** "They mark elements in the document, as it is behind them" */
    private void looseElements() {
        Cascadery x = forest(FEATURES[0]);
        ruled(x, 0, CLASS, 0, 0, JOIN, 0, 0, CLASS, 1, 0);
        x.shadow(7);
        x.make(7);
        x.putTop(8, 7, 0);
        x.make(1);
        x.put(9, 7, 0);
        x.value(0, 0);
        for (int e = 7; e <= 9; e++) {
            x.setClass(e, 0, true);
            x.setClass(e, 1, true);
            x.setAttribute(e, 1, 1);
            x.setPart(e, 1);
            own(x, e, TINT, PLAIN, 1);
            x.undeclare(100 + e, TINT);
        }
        x.take(9);
        x.put(9, 8, 0);
        check.due("none of a loose tree", x.marked(), 0);
        x.put(7, 6, 0);
        check.due("all of it when it is put", x.marked(), set(7, 8, 9));
        x.value(0, 0);
        x.setClass(9, 1, true);
        x.take(7);
        check.due("none when it is taken out", x.marked(), 0);
    }

    /** 0 has 1, 2, 3 and 4; 5 is a child of 1, 6 of 2, 7 of 3, 8 of 4; 9 is loose. */
    private static Cascadery branches() {
        Cascadery x = row(4);
        for (int e = 5; e <= 9; e++) {
            x.make(1);
        }
        for (int e = 5; e <= 8; e++) {
            x.put(e, e - 4, 0);
        }
        x.sheet(AUTHOR, NONE, NONE);
        selected(x, NTH, 2, 1);
        selected(x, JOIN, NEXT, 0);
        selected(x, JOIN, LATER, 0);
        return x;
    }

    private void checkMove(String what, Cascadery x, int element, int place, int taken, int put) {
        x.value(0, 0);
        x.take(element);
        check.due(what + ": taking " + element, x.marked(), taken);
        x.value(0, 0);
        x.put(element, 0, place);
        check.due(what + ": putting " + element + " at " + place, x.marked(), put);
    }

    /** "putting an element somewhere, or taking it out: that element with all below" */
    private void movesWithoutOrder() {
        int[][] rows = {{KIND, 1, 0}, {CLASS, 0, 0, JOIN, BELOW, 0, JOIN, CHILD, 0}, {}};
        for (int[] r : rows) {
            Cascadery x = branches();
            ruled(x, 0, r);
            for (int e = 1; e <= 4; e++) {
                checkMove("without order", x, e, e - 1, 0, set(e, e + 4));
            }
            checkMove("to the front", x, 4, 0, 0, set(4, 8));
            x.put(9, 0, 4);
            check.due("a loose one", x.marked(), set(4, 8, 9));
        }
    }

    /** "all its siblings behind it, there or, when it is taken out, where it was, each with all below, if ... NTH, NEXT or LATER" */
    private void movesWithOrder() {
        int[][] rows = {{NTH, 9, 9}, {JOIN, NEXT, 0}, {JOIN, LATER, 0}, {NOT, 0, 0}, {IS, 1, 0}, {NOT, 2, 0, JOIN, BELOW, 0},
            {JOIN, 0, 0, JOIN, 0, 0, JOIN, NEXT, 0}, {KIND, 1, 0, KIND, 1, 0, KIND, 1, 0, NTH, 1, 1}};
        for (int[] r : rows) {
            Cascadery x = branches();
            ruled(x, 0, r);
            int all = span(1, 8);
            checkMove("the first", x, 1, 0, all & ~set(1, 5), all);
            checkMove("the second", x, 2, 1, set(3, 4, 7, 8), all & ~set(1, 5));
            checkMove("the third", x, 3, 2, set(4, 8), set(3, 4, 7, 8));
            checkMove("the last", x, 4, 3, 0, set(4, 8));
            checkMove("the last to the front", x, 4, 0, 0, all);
            checkMove("the first to the end", x, 4, 3, all & ~set(4, 8), set(4, 8));
            x.value(0, 0);
            x.put(9, 5, 0);
            check.due("without siblings", x.marked(), set(9));
            x.turn(0, false);
            checkMove("of a sheet that is off", x, 3, 0, set(4, 8), all | set(9));
        }
    }

    /** Tops are siblings, too; "and all below the host of the shadow tree in which it is" */
    private void movesOfTops() {
        Cascadery x = row(2);
        x.shadow(1);
        for (int e = 3; e <= 6; e++) {
            x.make(1);
            x.putTop(e, 1, e - 3);
        }
        x.sheet(AUTHOR, NONE, NONE);
        x.value(0, 0);
        x.take(4);
        check.due("all below the host", x.marked(), set(3, 5, 6));
        x.value(0, 0);
        x.putTop(4, 1, 3);
        check.due("there, too", x.marked(), set(3, 4, 5, 6));
        x.value(0, 0);
        x.put(x.make(1), 6, 0);
        check.due("a child of a top", x.marked(), set(3, 4, 5, 6, 7));
        x.value(0, 0);
        x.take(7);
        check.due("and taken out", x.marked(), set(3, 4, 5, 6));
        x.value(0, 0);
        x.take(2);
        check.due("beside the host", x.marked(), 0);
        ruled(x, 0, NTH, 0, 1);
        x.put(2, 0, 0);
        x.value(0, 0);
        x.take(2);
        check.due("the host behind it with all below", x.marked(), set(1, 3, 4, 5, 6));
    }

    /** "all, if one has HAS, likewise" */
    private void movesWithHas() {
        int[][] rows = {{HAS, BELOW, 0}, {HAS, CHILD, 0, JOIN, BELOW, 0, KIND, 1, 0}, {IS, 3, 0}, {NOT, 4, 0}};
        for (int[] r : rows) {
            Cascadery x = branches();
            selected(x, HAS, LATER, 0);
            selected(x, NOT, 3, 0);
            ruled(x, 0, r);
            int all = span(0, 8);
            checkMove("the last", x, 4, 3, all & ~set(4, 8), all);
            x.value(0, 0);
            x.put(9, 8, 0);
            check.due("a loose one", x.marked(), span(0, 9));
            x.value(0, 0);
            x.setClass(9, 0, true);
            check.due("not a class", x.marked(), 0);
        }
        Cascadery x = branches();
        selected(x, HAS, LATER, 0);
        x.rule(0, x.select());
        checkMove("HAS of no rule", x, 4, 3, 0, set(4, 8));
    }

    /** "all below the host of whom it is, or was, a child" */
    private void movesBelowHosts() {
        Cascadery x = branches();
        x.shadow(1);
        x.value(0, 0);
        x.put(9, 1, 1);
        check.due("put", x.marked(), set(5, 9));
        x.value(0, 0);
        x.take(5);
        check.due("taken", x.marked(), set(9));
        x.value(0, 0);
        x.take(9);
        check.due("the last one taken", x.marked(), 0);
        x.put(9, 6, 0);
        check.due("below no host", x.marked(), set(9));
        x.value(0, 0);
        x.shadow(0);
        x.value(0, 0);
        x.take(2);
        check.due("a child of the host 0", x.marked(), span(1, 8) & ~set(2, 5, 6));
    }

    /** "a declaration of an element itself, or its part: this element" */
    private void ownDeclarations() {
        Cascadery x = forest(FEATURES[0]);
        ruled(x, 0, PART, 0, 0);
        ruled(x, 0, HOST, 0, 0, HAS, CHILD, 0);
        for (int e = 0; e <= 6; e++) {
            int element = e;
            Check.Acting[] edits = {() -> own(x, element, GAP, PX, 3), () -> ownVar(x, element, 12, 13, NONE, 3),
                () -> x.undeclare(100 + element, 15), () -> x.setPart(element, 3), () -> x.setPart(element, NONE)};
            for (Check.Acting edit : edits) {
                x.value(0, 0);
                edit.act();
                check.due("this element, " + e, x.marked(), 1 << e);
            }
        }
    }

    /** "all others: all" */
    private void allOthers() {
        Cascadery x = forest(FEATURES[0]);
        Check.Acting[] edits = {() -> x.sheet(AGENT, 4, 0), () -> x.turn(1, false), () -> x.rule(1, 3), () -> x.when(0, NONE, 0),
            () -> x.declare(0, 14, AUTO, 0, false), () -> x.declareVar(0, 15, 12, NONE, 0, false), () -> x.undeclare(0, 15),
            () -> x.setWidth(0), () -> x.shadow(6), () -> x.shadow(7)};
        for (int i = 0; i < edits.length; i++) {
            x.value(0, 0);
            edits[i].act();
            check.due("all by edit " + i, x.marked(), span(0, 6));
        }
    }

    /** "Returns the marked elements that are in the document, as a set": of none, and of as many as there may be */
    private void allOfThirty() {
        Cascadery x = row(29);
        check.due("all but 0, which has no values, but is not marked", x.marked(), span(1, 29));
        x.value(29, 0);
        check.due("none", x.marked(), 0);
        check.due("restyled", x.restyled(), 30);
        check.due("shared", x.shared(), 28);
        x.setWidth(1000);
        check.due("all", x.marked(), (1 << 30) - 1);
        x.take(29);
        check.due("but what is taken out", x.marked(), (1 << 29) - 1);
        x.value(0, 0);
        x.put(29, 28, 0);
        check.due("the last one", x.marked(), 1 << 29);
    }

    private int restyledBy(Cascadery x) {
        int before = x.restyled();
        x.value(0, 0);
        return x.restyled() - before;
    }

    /** "restyles each one that is marked, that has no values yet, or one of whose elements above has changed in this flush" */
    private void changedAbove() {
        Cascadery x = branches();
        check.due("all for the first time", restyledBy(x), 9);
        own(x, 0, GAP, PX, 0);
        check.due("no change, so only it", restyledBy(x), 1);
        own(x, 0, GAP, PX, 1);
        check.due("a change, so all below", restyledBy(x), 9);
        own(x, 1, GAP, PX, 1);
        check.due("one and its child", restyledBy(x), 2);
        own(x, 5, GAP, PX, 1);
        check.due("none below it", restyledBy(x), 1);
        own(x, 1, GAP, PX, 2);
        own(x, 5, GAP, PX, 2);
        check.due("each just once", restyledBy(x), 2);
        x.put(9, 5, 0);
        own(x, 1, GAP, PX, 3);
        check.due("two levels down, though the middle did not change", restyledBy(x), 3);
        check.due("all each time", x.restyled(), 9 + 1 + 9 + 2 + 1 + 2 + 3);
    }

    /** "if some value of it is another one than before, variables with their units" */
    private void changedUnits() {
        Cascadery x = chain(1);
        own(x, 0, 12, PLAIN, 0);
        check.due("all", restyledBy(x), 2);
        for (int unit = PX; unit <= AUTO; unit++) {
            own(x, 0, 12, unit, 0);
            check.due("the same number of another unit", restyledBy(x), 2);
            own(x, 0, 12, unit, unit == AUTO ? 5 : 0);
            check.due("the same", restyledBy(x), 1);
        }
        own(x, 0, 12, INITIAL, 0);
        check.due("invalid", restyledBy(x), 2);
        own(x, 0, 12, INHERIT, 0);
        check.due("still invalid", restyledBy(x), 1);
        own(x, 0, SPAN, PX, 0);
        check.due("a number in place of AUTO", restyledBy(x), 2);
        own(x, 0, TINT, PLAIN, 0);
        x.declare(100, TINT, PLAIN, 0, true);
        check.due("the same, but important", restyledBy(x), 1);
    }

    /** "or if it is a holder, and its size is another one" */
    private void changedSizes() {
        Cascadery x = chain(3);
        own(x, 1, HOLDS, PLAIN, 1);
        own(x, 3, EDGE, HELD, 100);
        x.value(0, 0);
        own(x, 3, GAP, PX, 1);
        check.due("not a shown child", restyledBy(x), 1);
        own(x, 2, GAP, PX, 1);
        check.due("a shown child: all below the holder", restyledBy(x), 2);
        check.due("by the new size", x.value(3, EDGE), 2);
        own(x, 2, TINT, PLAIN, 1);
        check.due("the same size: the child, which changes, and below", restyledBy(x), 2);
        x.make(1);
        x.put(4, 1, 1);
        check.due("one without SPAN and GAP", restyledBy(x), 1);
        own(x, 4, SPAN, PX, 1);
        check.due("one more: all below the holder", restyledBy(x), 3);
        own(x, 1, HOLDS, PLAIN, 0);
        check.due("no holder any more", restyledBy(x), 4);
        own(x, 4, SPAN, PX, 2);
        check.due("no size", restyledBy(x), 1);
        check.due("HELD by the window", x.value(3, EDGE), 1000);
        own(x, 1, HOLDS, PLAIN, 1);
        check.due("a holder again", restyledBy(x), 4);
        check.due("its size now", x.value(3, EDGE), 4);
    }

    /** "Values are kept, as long as an element is in the document." */
    private void valuesForTheFirstTime() {
        Cascadery x = chain(2);
        x.listen(1, TINT, 0, 0);
        own(x, 1, TINT, PLAIN, 3);
        x.value(0, 0);
        check.due("the first time", x.setClass(0, 0, false), false);
        x.take(1);
        x.value(0, 0);
        own(x, 1, TINT, PLAIN, 4);
        x.put(1, 0, 0);
        check.due("marked with all below", x.marked(), set(1, 2));
        check.due("restyled", restyledBy(x), 2);
        check.due("the first time again", x.setClass(0, 0, false), false);
        x.take(1);
        x.put(1, 0, 0);
        own(x, 1, TINT, PLAIN, 5);
        check.due("without a flush between", restyledBy(x), 2);
        check.due("the first time once more", x.setClass(0, 0, false), false);
        own(x, 1, TINT, PLAIN, 6);
        check.due("now it is another value", restyledBy(x), 2);
        check.due("and the listener is told", x.setClass(0, 0, false), true);
    }

    private int sharedBy(Cascadery x) {
        int before = x.shared();
        x.setWidth(1000);
        x.value(0, 0);
        return x.shared() - before;
    }

    /** "both have the same kind, classes, states, attributes and part, the same shown parent, no declarations, no shadow trees" */
    private void sharedOrNot() {
        for (int different = 1; different <= 3; different++) {
            int e = different;
            int due = e == 2 ? 0 : 1;
            Cascadery x = row(3);
            check.due("two behind the first one", sharedBy(x), 2);
            Check.Acting[] differences = {() -> x.setClass(e, 7, true), () -> x.setClass(e, 7, false),
                () -> x.setState(e, 3, true), () -> x.setState(e, 3, false), () -> x.setAttribute(e, 0, 9),
                () -> x.setAttribute(e, 0, NONE), () -> x.setAttribute(e, 1, 0), () -> x.setAttribute(e, 1, NONE),
                () -> x.setPart(e, 3), () -> x.setPart(e, NONE), () -> own(x, e, 14, INITIAL, 0), () -> x.undeclare(100 + e, 14)};
            for (int i = 0; i < differences.length; i++) {
                differences[i].act();
                check.due("difference " + i + " of " + e, sharedBy(x), i % 2 == 0 ? due : 2);
            }
            x.shadow(e);
            check.due("an empty shadow tree of " + e, sharedBy(x), due);
        }
        Cascadery x = row(1);
        x.make(2);
        x.put(2, 0, 1);
        check.due("another kind", sharedBy(x), 0);
        Cascadery y = chain(5);
        check.due("without siblings", sharedBy(y), 0);
        Cascadery z = row(3);
        for (int e = 1; e <= 3; e++) {
            own(z, e, TINT, PLAIN, 1);
        }
        check.due("the same declarations of their own", sharedBy(z), 0);
    }

    /** "the sibling right ahead of it was restyled in this flush, too"; "no selector of a rule has NTH, NEXT, LATER or HAS" */
    private void sharedSelectors() {
        Cascadery x = row(4);
        x.sheet(AUTHOR, NONE, NONE);
        ruled(x, 0, CLASS, 0, 0);
        x.value(0, 0);
        int before = x.shared();
        x.setClass(3, 0, false);
        x.value(0, 0);
        check.due("alone", x.shared() - before, 0);
        x.setClass(1, 0, false);
        x.setClass(3, 0, false);
        x.setClass(4, 0, false);
        x.value(0, 0);
        check.due("two side by side", x.shared() - before, 1);
        int[][] rows = {{NTH, 1, 1}, {JOIN, NEXT, 0}, {JOIN, LATER, 0}, {HAS, BELOW, 0}};
        for (int[] r : rows) {
            Cascadery y = row(3);
            y.sheet(AUTHOR, NONE, NONE);
            y.select();
            int inner = selected(y, r);
            int outer = selected(y, NOT, inner, 0);
            check.due("of no rule", sharedBy(y), 2);
            y.rule(0, 0);
            check.due("another rule", sharedBy(y), 2);
            y.rule(0, y.select());
            y.turn(0, false);
            ruled(y, 0, IS, outer, 0, JOIN, BELOW, 0);
            check.due("deep inside, of a sheet that is off", sharedBy(y), 0);
        }
        Cascadery z = row(3);
        z.sheet(AUTHOR, NONE, NONE);
        ruled(z, 0, JOIN, BELOW, 0, JOIN, CHILD, 0);
        check.due("BELOW and CHILD", sharedBy(z), 2);
    }

    /** "Listeners are numbered from 0; at most 6 are made." */
    private void sixListeners() {
        Cascadery x = row(1);
        for (int i = 0; i < 6; i++) {
            check.due("listen", x.listen(0, TINT, 1, i), i);
        }
        check.state("one more", () -> x.listen(0, TINT, 1, 6));
        x.value(0, 0);
        own(x, 0, TINT, PLAIN, 1);
        x.value(0, 0);
        for (int i = 0; i < 6; i++) {
            check.due("the class of listener " + i, x.setClass(1, i, false), true);
        }
        check.due("not of a seventh", x.setClass(1, 6, false), false);
    }

    /** "property: 0 to 14"; "name: the class, 0 to 7"; "no such element, of either" */
    private void argumentsOfListeners() {
        range("listen to", 0, 2, BOUNDS, e -> row(2).listen(e, 0, 0, 0));
        range("listen for", 0, 2, BOUNDS, e -> row(2).listen(0, 0, e, 0));
        range("listen to the property", 0, 14, ARGUMENT, p -> row(2).listen(0, p, 0, 0));
        range("listen with the class", 0, 7, ARGUMENT, name -> row(2).listen(0, 0, 0, name));
        check.taken("of loose ones", () -> loose(2).listen(1, 0, 2, 0));
        Cascadery x = row(1);
        for (int i = 0; i < 6; i++) {
            x.listen(0, 0, 0, 0);
        }
        check.bounds("a seventh, all wrong", () -> x.listen(2, 15, 0, 8));
        check.argument("a seventh, a wrong class", () -> x.listen(1, 0, 0, 8));
    }

    private static void declareNumber(Cascadery x, int property, int number) {
        own(x, 0, property, property >= SIZE && property <= EDGE ? PX : PLAIN, number);
        x.value(0, 0);
    }

    /** "in which the value of the first one has changed": each property alone */
    private void propertiesOfListeners() {
        for (int p = 0; p <= 14; p++) {
            for (int other = 0; other <= 14; other++) {
                Cascadery x = row(1);
                x.listen(0, p, 1, 7);
                x.value(0, 0);
                declareNumber(x, other, 77);
                check.due("listening to " + p + ", changing " + other, x.setClass(1, 7, false), p == other);
            }
        }
    }

    /** "but not by getting values for the first time"; "gets the class, if it has not, and loses it otherwise" */
    private void toldListeners() {
        Cascadery x = row(2);
        x.listen(1, TINT, 2, 0);
        own(x, 1, TINT, PLAIN, 1);
        x.value(0, 0);
        check.due("not for the first time", x.setClass(2, 0, false), false);
        own(x, 1, TINT, PLAIN, 1);
        x.value(0, 0);
        check.due("not for the same value", x.setClass(2, 0, false), false);
        for (int i = 0; i < 4; i++) {
            own(x, 1, TINT, PLAIN, 2 + i);
            check.due("not ahead of the flush", x.setClass(2, 0, i % 2 == 1), i % 2 == 1);
            x.value(0, 0);
            check.due("gets it, and loses it", x.setClass(2, 0, i % 2 == 0), i % 2 == 0);
        }
        own(x, 1, SIZE, PX, 2);
        x.value(0, 0);
        check.due("not for another property", x.setClass(2, 0, false), false);
        own(x, 2, TINT, PLAIN, 2);
        x.value(0, 0);
        check.due("not for another element", x.setClass(2, 0, false), false);
        x.take(2);
        own(x, 1, TINT, PLAIN, 9);
        x.value(0, 0);
        check.due("one out of the document gets it, too", x.setClass(2, 0, false), true);
        x.take(1);
        own(x, 1, TINT, PLAIN, 10);
        x.value(0, 0);
        check.due("one out of the document has no values", x.setClass(2, 0, false), false);
        x.put(1, 0, 0);
        x.value(0, 0);
        own(x, 1, TINT, PLAIN, 11);
        x.value(0, 0);
        check.due("back again, and changed", x.setClass(2, 0, false), true);
        x.take(1);
        own(x, 0, TINT, PLAIN, 12);
        x.value(0, 0);
        check.due("changed in the last flush, but not in this one", x.setClass(2, 0, false), false);
    }

    /** "by rising numbers of listeners; this is an edit" */
    private void listenersInOrder() {
        Cascadery x = row(3);
        x.sheet(AUTHOR, NONE, NONE);
        ruled(x, 0, CLASS, 0, 0);
        x.declare(0, TINT, PLAIN, 9, false);
        x.listen(1, SIZE, 2, 0);
        x.listen(1, SIZE, 2, 0);
        x.listen(1, SIZE, 3, 1);
        x.value(0, 0);
        own(x, 1, SIZE, PX, 5);
        check.due("given and taken by two", x.value(2, TINT), 0);
        check.due("which marked it", x.flushes(), 3);
        check.due("a class of no rule", x.setClass(3, 1, false), true);
        x.listen(1, SIZE, 2, 0);
        own(x, 1, SIZE, PX, 6);
        check.due("given by three", x.value(2, TINT), 9);
        own(x, 1, SIZE, PX, 7);
        check.due("taken by three", x.value(2, TINT), 0);
    }

    /** Each of some elements listens to the one ahead of it, and changes when that has changed. */
    private static Cascadery dominoes(int listeners) {
        Cascadery x = row(8);
        x.sheet(AUTHOR, NONE, NONE);
        ruled(x, 0, CLASS, 0, 0);
        x.declare(0, TINT, PLAIN, 9, false);
        for (int i = 1; i <= listeners; i++) {
            x.listen(i, TINT, i + 1, 0);
        }
        x.value(0, 0);
        own(x, 1, TINT, PLAIN, 5);
        return x;
    }

    /** "If elements are marked then, another flush follows, but at most 4 for one reading; marks that are left stay." */
    private void atMostFourFlushes() {
        for (int listeners = 0; listeners <= 6; listeners++) {
            Cascadery x = dominoes(listeners);
            int flushes = x.flushes();
            x.value(0, 0);
            int due = Math.min(listeners + 1, 4);
            check.due("flushes with " + listeners, x.flushes() - flushes, due);
            check.due("marks that are left", x.marked(), listeners >= 4 ? set(5) : 0);
            for (int e = 2; e <= 7; e++) {
                check.due("the class of " + e, x.matches(e, 0, NONE), e <= due + 1 && e <= listeners + 1);
            }
            flushes = x.flushes();
            int second = x.value(Math.min(listeners + 1, 5), TINT);
            check.due("the value", second, listeners == 0 ? 5 : 9);
            check.due("flushes of the second reading", x.flushes() - flushes, Math.max(0, listeners - 3));
            check.due("no marks are left", x.marked(), 0);
        }
    }

    /** Listeners that never come to rest: four flushes for each reading. */
    private void endlessListeners() {
        Cascadery x = row(2);
        x.sheet(AUTHOR, NONE, NONE);
        ruled(x, 0, CLASS, 0, 0);
        x.declare(0, TINT, PLAIN, 9, false);
        x.listen(1, TINT, 1, 0);
        x.value(0, 0);
        own(x, 1, SIZE, PX, 3);
        x.value(0, 0);
        check.due("not begun", x.flushes(), 2);
        x.setClass(1, 0, true);
        for (int reading = 1; reading <= 5; reading++) {
            read(x, reading % 5);
            check.due("four more", x.flushes(), 2 + 4 * reading);
            check.due("it is left marked", x.marked(), set(1));
        }
        check.due("valueAnew does not flush", x.valueAnew(1, TINT), 9);
        check.due("none more", x.flushes(), 22);
        x.undeclare(0, TINT);
        x.value(0, 0);
        check.due("it comes to rest", x.marked(), 0);
    }
}
