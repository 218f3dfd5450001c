/** The edges of promises 1 to 12, and of what the document says of TREES: a test for each sentence that names one. */
public final class TreeEdgesTest extends TestBase {
    private TreeEdgesTest() {
        super("TreeEdgesTest");
    }

    public static void main(String[] args) {
        TreeEdgesTest test = new TreeEdgesTest();
        test.newObject();
        test.thirtyElements();
        test.kinds();
        test.elementNumbers();
        test.classes();
        test.states();
        test.attributes();
        test.parts();
        test.secondShadow();
        test.emptyShadow();
        test.placesOfChildren();
        test.placesOfTops();
        test.onlyLoose();
        test.notIntoItself();
        test.besideItself();
        test.allBelowComesWithIt();
        test.taken();
        test.looseAgain();
        test.deepest();
        test.deepestShadows();
        test.widest();
        test.inTheDocument();
        test.whatIsASlot();
        test.firstSlot();
        test.namesOfSlots();
        test.shownParents();
        test.shownChildren();
        test.lastOf512Calls();
        test.check.end();
    }

    /** "Creates a document with element 0, without sheets, in a window of 1000." "with the kind 0" */
    private void newObject() {
        Cascadery x = new Cascadery();
        check.due("element 0", x.isIn(0), true);
        check.bounds("no other element", () -> x.isIn(1));
        check.bounds("no selector", () -> x.weight(0));
        check.due("the kind 0", x.allThat(selected(x, KIND, 0, 0), NONE), 1);
        check.bounds("no sheet", () -> x.turn(0, true));
        check.bounds("no rule", () -> x.when(0, NONE, 0));
        check.bounds("no shadow tree", () -> x.allThat(0, 0));
        check.due("no class", x.setClass(0, 0, false), false);
        check.due("no state", x.setState(0, 0, false), false);
        check.due("no attribute 0", x.setAttribute(0, 0, NONE), NONE);
        check.due("no attribute 1", x.setAttribute(0, 1, NONE), NONE);
        check.due("no part", x.setPart(0, NONE), NONE);
        check.due("nothing declared", x.undeclare(100, 15), 0);
        check.due("the first sheet", x.sheet(AUTHOR, NONE, NONE), 0);
        check.due("the window", x.setWidth(1000), 1000);
        check.due("no tick has passed", x.tick(1), 1);
        check.due("no frames", x.frame(0, TINT, 0, 0), 1);
        check.due("no listeners", x.listen(0, 0, 0, 0), 0);
    }

    /** "at most 30 are made"; "IllegalStateException if there are 30" */
    private void thirtyElements() {
        Cascadery x = new Cascadery();
        for (int e = 1; e <= 28; e++) {
            check.due("make", x.make(0), e);
        }
        check.bounds("not there yet", () -> x.isIn(29));
        check.due("the last one", x.make(7), 29);
        check.state("one more", () -> x.make(0));
        check.state("one more of another kind", () -> x.make(7));
        check.bounds("not there", () -> x.isIn(30));
        x.put(29, 0, 0);
        check.due("the last one is one as others", x.shownParent(29), 0);
        check.due("in a set, too", x.allThat(selected(x, KIND, 7, 0), NONE), 1 << 29);
        x.take(29);
        check.state("what is taken out is still there", () -> x.make(0));
    }

    /** "An element has a kind, 0 to 7" */
    private void kinds() {
        range("make", 0, 7, ARGUMENT, kind -> new Cascadery().make(kind));
        Cascadery x = new Cascadery();
        for (int kind = 0; kind <= 7; kind++) {
            x.make(kind);
            x.put(kind + 1, 0, kind);
        }
        for (int kind = 0; kind <= 7; kind++) {
            int set = x.allThat(selected(x, KIND, kind, 0), NONE);
            check.due("of the kind " + kind, set, kind == 0 ? set(0, 1) : set(kind + 1));
        }
    }

    /** "IndexOutOfBoundsException if there is no such element", of either */
    private void elementNumbers() {
        range("shadow", 0, 2, BOUNDS, e -> loose(2).shadow(e));
        range("put", 1, 2, BOUNDS, e -> loose(2).put(e == 0 ? -1 : e, 0, 0));
        range("putTop", 1, 2, BOUNDS, e -> topOf0(e == 0 ? -1 : e, 0));
        range("put below", 0, 1, BOUNDS, e -> loose(2).put(2, e == 2 ? 3 : e, 0));
        range("putTop in", 0, 0, BOUNDS, e -> topOf0(2, e));
        range("take", 1, 2, BOUNDS, e -> row(2).take(e == 0 ? -1 : e));
        range("setClass", 0, 2, BOUNDS, e -> loose(2).setClass(e, 0, true));
        range("setState", 0, 2, BOUNDS, e -> loose(2).setState(e, 0, true));
        range("setAttribute", 0, 2, BOUNDS, e -> loose(2).setAttribute(e, 0, 0));
        range("setPart", 0, 2, BOUNDS, e -> loose(2).setPart(e, 0));
        range("shownParent", 0, 2, BOUNDS, e -> loose(2).shownParent(e));
        range("isIn", 0, 2, BOUNDS, e -> loose(2).isIn(e));
    }

    private static void topOf0(int element, int host) {
        Cascadery x = loose(2);
        x.shadow(0);
        x.putTop(element, host, 0);
    }

    /** "a set of classes, 0 to 7" */
    private void classes() {
        range("setClass", 0, 7, ARGUMENT, name -> loose(1).setClass(1, name, true));
        range("no class", 0, 7, ARGUMENT, name -> loose(1).setClass(1, name, false));
        Cascadery x = row(1);
        for (int name = 0; name <= 7; name++) {
            check.due("not yet", x.setClass(1, name, true), false);
            check.due("of another element", x.setClass(0, name, false), false);
        }
        for (int name = 0; name <= 7; name++) {
            check.due("one of all eight", x.setClass(1, name, false), true);
            check.due("gone", x.setClass(1, name, false), false);
        }
    }

    /** "a set of states, 0 to 3" */
    private void states() {
        range("setState", 0, 3, ARGUMENT, state -> loose(1).setState(1, state, true));
        range("no state", 0, 3, ARGUMENT, state -> loose(1).setState(1, state, false));
        Cascadery x = row(1);
        for (int state = 0; state <= 3; state++) {
            check.due("not yet", x.setState(1, state, true), false);
            check.due("of another element", x.setState(0, state, false), false);
        }
        for (int state = 0; state <= 3; state++) {
            check.due("no class", x.setClass(1, state, false), false);
            check.due("one of all four", x.setState(1, state, false), true);
            check.due("gone", x.setState(1, state, false), false);
        }
    }

    /** "for each of the attributes 0 and 1 a number from 0 to 9, or none" */
    private void attributes() {
        range("the attribute", 0, 1, ARGUMENT, attribute -> loose(1).setAttribute(1, attribute, 0));
        range("the number of 0", NONE, 9, ARGUMENT, number -> loose(1).setAttribute(1, 0, number));
        range("the number of 1", NONE, 9, ARGUMENT, number -> loose(1).setAttribute(1, 1, number));
        Cascadery x = row(1);
        int before0 = NONE;
        int before1 = NONE;
        for (int number = 0; number <= 9; number++) {
            check.due("attribute 0", x.setAttribute(1, 0, number), before0);
            check.due("attribute 1", x.setAttribute(1, 1, 9 - number), before1);
            before0 = number;
            before1 = 9 - number;
        }
        check.due("9 of 0", x.setAttribute(1, 0, NONE), 9);
        check.due("0 of 1", x.setAttribute(1, 1, NONE), 0);
        check.due("none of 0", x.setAttribute(1, 0, NONE), NONE);
        check.due("none of 1", x.setAttribute(1, 1, NONE), NONE);
    }

    /** "a part, 0 to 3, or none" */
    private void parts() {
        range("the part", NONE, 3, ARGUMENT, part -> loose(1).setPart(1, part));
        Cascadery x = row(1);
        for (int part = 0; part <= 3; part++) {
            check.due("the part before", x.setPart(1, part), part - 1);
        }
        check.due("3", x.setPart(1, NONE), 3);
        check.due("none", x.setPart(1, NONE), NONE);
    }

    /** "IllegalStateException if it has one" */
    private void secondShadow() {
        Cascadery x = row(1);
        x.shadow(0);
        check.state("a second one, empty", () -> x.shadow(0));
        x.shadow(1);
        x.make(1);
        x.putTop(2, 1, 0);
        check.state("a second one, with a top", () -> x.shadow(1));
        x.take(2);
        check.state("a second one, empty again", () -> x.shadow(1));
        x.take(1);
        check.state("a second one of a loose one", () -> x.shadow(1));
        check.taken("of another one", () -> x.shadow(2));
    }

    /** "Gives an element a shadow tree without tops." */
    private void emptyShadow() {
        Cascadery x = row(1);
        x.make(1);
        int all = selected(x);
        int host = selected(x, HOST, 0, 0);
        check.bounds("no shadow tree yet", () -> x.putTop(2, 1, 0));
        x.shadow(1);
        check.due("no elements", x.allThat(all, 1), 0);
        check.due("but a host", x.allThat(host, 1), set(1));
        check.bounds("no place 1", () -> x.putTop(2, 1, 1));
        x.putTop(2, 1, 0);
        check.due("one element", x.allThat(all, 1), set(2));
        x.take(2);
        check.due("none again", x.allThat(all, 1), 0);
    }

    /** "place: 0 to the number of children of the parent" */
    private void placesOfChildren() {
        for (int count = 0; count <= 3; count++) {
            int n = count;
            range("among " + n, 0, n, BOUNDS, place -> {
                Cascadery x = row(n);
                x.make(2);
                x.put(n + 1, 0, place);
                check.due("its place", x.allThat(selected(x, KIND, 2, 0, NTH, 0, place + 1), NONE), 1 << n + 1);
            });
        }
        Cascadery x = row(2);
        x.make(2);
        x.shadow(0);
        x.make(3);
        x.putTop(3, 0, 0);
        check.bounds("tops are no children", () -> x.put(4, 0, 3));
        check.taken("behind the last child", () -> x.put(4, 0, 2));
    }

    /** "place: 0 to the number of tops" */
    private void placesOfTops() {
        for (int count = 0; count <= 3; count++) {
            int n = count;
            range("among " + n, 0, n, BOUNDS, place -> {
                Cascadery x = loose(n);
                x.shadow(0);
                for (int e = 1; e <= n; e++) {
                    x.putTop(e, 0, e - 1);
                }
                x.make(2);
                x.putTop(n + 1, 0, place);
                check.due("its place", x.allThat(selected(x, KIND, 2, 0, NTH, 0, place + 1), 0), 1 << n + 1);
            });
        }
        Cascadery x = row(2);
        x.shadow(0);
        x.make(2);
        check.bounds("children are no tops", () -> x.putTop(3, 0, 1));
        check.bounds("the document is no host", () -> x.putTop(3, NONE, 0));
    }

    /** "IllegalStateException if the element is not loose, or is 0" */
    private void onlyLoose() {
        Cascadery x = row(2);
        x.shadow(1);
        x.make(1);
        x.make(1);
        x.putTop(3, 1, 0);
        for (int e : new int[] {0, 1, 2, 3}) {
            check.state("put " + e, () -> x.put(e, 4, 0));
            check.state("putTop " + e, () -> x.putTop(e, 1, 0));
        }
        check.state("put 0 below itself", () -> x.put(0, 0, 0));
        check.state("put 0 below what is below it", () -> x.put(0, 2, 0));
        check.taken("put 4", () -> x.put(4, 2, 0));
    }

    /** "the parent is it, below it, or in a shadow tree of it or below it, and so on"; so for the host */
    private void notIntoItself() {
        Cascadery x = loose(6);
        // 1 has the child 2; 2 has the top 3; 3 has the child 4; 4 has the top 5; 5 has the child 6
        x.put(2, 1, 0);
        x.shadow(2);
        x.putTop(3, 2, 0);
        x.put(4, 3, 0);
        x.shadow(4);
        x.putTop(5, 4, 0);
        x.put(6, 5, 0);
        x.shadow(1);
        x.shadow(3);
        x.shadow(5);
        x.shadow(6);
        for (int e = 1; e <= 6; e++) {
            int above = e;
            check.state("1 below " + above, () -> x.put(1, above, 0));
            check.state("1 in the shadow tree of " + above, () -> x.putTop(1, above, 0));
        }
        check.due("it is still loose", x.shownParent(1), NONE);
        check.taken("below 0", () -> x.put(1, 0, 0));
    }

    /** Only what is the element, or below it, is refused as a parent, and as a host. */
    private void besideItself() {
        Cascadery x = loose(4);
        x.put(2, 1, 0);
        x.put(4, 3, 0);
        x.shadow(2);
        check.taken("a loose tree below what is loose", () -> x.put(3, 2, 0));
        check.due("all of it", x.shownParent(4) * 10 + x.shownParent(3), 32);
        x.take(3);
        check.taken("below its former child's tree", () -> x.putTop(3, 2, 0));
        x.take(4);
        check.taken("a former child above it", () -> x.put(1, 4, 0));
        check.due("now above", x.shownParent(1), 4);
        check.state("but not below it any more", () -> x.put(4, 3, 0));
    }

    /** "what is put somewhere comes with its children and its shadow tree, and all that is below" */
    private void allBelowComesWithIt() {
        Cascadery x = loose(5);
        x.put(2, 1, 0);
        x.shadow(1);
        x.putTop(3, 1, 0);
        x.shadow(3);
        x.putTop(4, 3, 0);
        x.put(5, 4, 0);
        check.due("all are out", isInAny(x, 1, 5), false);
        x.put(1, 0, 0);
        check.due("all are in", isInAll(x, 1, 5), true);
        x.take(1);
        check.due("all are out again", isInAny(x, 1, 5), false);
        check.due("and where they were", x.shownParent(2) * 1000 + x.shownParent(3) * 100 + x.shownParent(4) * 10
                + x.shownParent(5), 1134);
    }

    private static boolean isInAny(Cascadery x, int first, int last) {
        boolean is = false;
        for (int e = first; e <= last; e++) {
            is |= x.isIn(e);
        }
        return is;
    }

    private static boolean isInAll(Cascadery x, int first, int last) {
        boolean is = true;
        for (int e = first; e <= last; e++) {
            is &= x.isIn(e);
        }
        return is;
    }

    /** "Returns the parent, or 100 plus the host, that it had." */
    private void taken() {
        Cascadery x = loose(29);
        x.shadow(0);
        x.shadow(29);
        x.put(1, 0, 0);
        check.due("the child of 0", x.take(1), 0);
        x.putTop(1, 0, 0);
        check.due("a top of 0", x.take(1), 100);
        x.put(28, 29, 0);
        check.due("the child of 29", x.take(28), 29);
        x.putTop(28, 29, 0);
        check.due("a top of 29", x.take(28), 129);
        x.put(27, 28, 0);
        x.putTop(28, 29, 0);
        check.due("the child of a top", x.take(27), 28);
    }

    /** "it is loose then"; "IllegalStateException if it is loose, or 0" */
    private void looseAgain() {
        Cascadery x = row(3);
        check.state("0", () -> x.take(0));
        x.take(2);
        check.state("twice", () -> x.take(2));
        check.due("out", x.isIn(2), false);
        check.due("without a shown parent", x.shownParent(2), NONE);
        check.bounds("a child less", () -> x.put(2, 0, 3));
        check.taken("behind the last one", () -> x.put(2, 0, 2));
        x.take(1);
        x.take(3);
        x.take(2);
        check.bounds("no child is left", () -> x.put(3, 0, 1));
        check.taken("the only place", () -> x.put(3, 0, 0));
        x.make(1);
        check.state("loose as when it is made", () -> x.take(4));
    }

    /** All elements one below the other: all that goes up or down goes 29 levels. */
    private void deepest() {
        Cascadery x = chain(29);
        check.due("in the document", isInAll(x, 0, 29), true);
        check.due("the shown parent", x.shownParent(29), 28);
        own(x, 0, TINT, PLAIN, 77);
        check.due("inherited over 29 levels", x.value(29, TINT), 77);
        check.due("below 0", x.allThat(selected(x, KIND, 0, 0, JOIN, BELOW, 0), NONE), span(1, 29));
        x.setClass(29, 0, true);
        int last = selected(x, CLASS, 0, 0);
        check.due("has it below", x.allThat(selected(x, HAS, BELOW, last), NONE), span(0, 28));
        own(x, 0, HOLDS, PLAIN, 1);
        own(x, 0, SPAN, PX, 50);
        own(x, 29, GAP, HELD, 100);
        check.due("the holder 29 levels above", x.value(29, GAP), 50);
        x.take(1);
        check.due("all are out", isInAny(x, 1, 29), false);
        check.state("below itself, 28 levels", () -> x.put(1, 29, 0));
        x.put(1, 0, 0);
        check.due("all are back", isInAll(x, 1, 29), true);
    }

    /** "The depth of the document's tree is 0; that of a shadow tree is 1 more than that of its host." */
    private void deepestShadows() {
        Cascadery x = loose(29);
        for (int e = 0; e <= 28; e++) {
            x.shadow(e);
            x.putTop(e + 1, e, 0);
        }
        check.due("in the document", isInAll(x, 0, 29), true);
        check.due("the shown parent", x.shownParent(29), 28);
        x.setPart(29, 0);
        x.sheet(AUTHOR, 27, NONE);
        x.sheet(AUTHOR, 28, NONE);
        x.sheet(AUTHOR, NONE, NONE);
        ruled(x, 0, PART, 0, 0);
        ruled(x, 1, KIND, 1, 0);
        x.declare(0, TINT, PLAIN, 28, false);
        x.declare(1, TINT, PLAIN, 29, false);
        check.due("the depth of 27's before that of 28's", x.value(29, TINT), 28);
        check.due("by the tree", x.why(29, TINT, 1), 2);
        own(x, 29, TINT, PLAIN, 1);
        check.due("its own are as deep as 28's", x.why(29, TINT, 1), 2);
        x.undeclare(0, TINT);
        check.due("so own they go ahead", x.why(29, TINT, 1), 3);
        ruled(x, 2, KIND, 0, 0);
        x.declare(2, TINT, PLAIN, 5, false);
        own(x, 0, TINT, PLAIN, 6);
        check.due("the document's depth is that of 0's own", x.why(0, TINT, 2), 3);
    }

    /** All elements children of one. */
    private void widest() {
        Cascadery x = row(28);
        x.make(2);
        check.bounds("a place too far", () -> x.put(29, 0, 29));
        x.put(29, 0, 28);
        check.due("place 29 is 9 times 3 plus 2", x.allThat(selected(x, NTH, 9, 2), NONE), set(2, 11, 20, 29));
        int last = selected(x, KIND, 2, 0);
        check.due("all ahead have it behind", x.allThat(selected(x, HAS, LATER, last), NONE), span(1, 28));
        check.due("the one ahead", x.allThat(selected(x, HAS, NEXT, last), NONE), set(28));
        x.take(1);
        check.due("places move up", x.allThat(0, NONE), set(3, 12, 21));
        x.shadow(29);
        x.putTop(1, 29, 0);
        check.due("no sibling any more", x.allThat(2, NONE), span(2, 28));
    }

    /** "in the document, if it is in the document's tree, or in a shadow tree whose host is in the document" */
    private void inTheDocument() {
        Cascadery x = loose(4);
        x.shadow(1);
        x.putTop(2, 1, 0);
        x.shadow(2);
        x.putTop(3, 2, 0);
        x.put(4, 3, 0);
        check.due("a loose tree and its shadow trees", isInAny(x, 1, 4), false);
        x.put(1, 0, 0);
        check.due("shadow trees in shadow trees", isInAll(x, 1, 4), true);
        check.due("not of the document's tree", x.allThat(selected(x), NONE), set(0, 1));
        x.take(3);
        check.due("a former top", isInAny(x, 3, 4), false);
        check.due("its host", x.isIn(2), true);
    }

    /** "An element of the kind 7 in a shadow tree is a slot." */
    private void whatIsASlot() {
        for (int kind = 0; kind <= 7; kind++) {
            Cascadery x = loose(1);
            x.make(kind);
            x.make(1);
            x.put(1, 0, 0);
            x.shadow(1);
            x.put(3, 1, 0);
            x.putTop(2, 1, 0);
            check.due("of the kind " + kind, x.shownParent(3), kind == 7 ? 2 : 1);
        }
        Cascadery x = loose(1);
        x.make(7);
        x.make(7);
        x.make(7);
        x.make(1);
        x.put(1, 0, 0);
        x.shadow(1);
        x.put(5, 1, 0);
        x.put(2, 0, 1);
        x.put(3, 1, 1);
        check.due("not in the document's tree, nor a child of the host", x.shownParent(5), 1);
        x.make(1);
        x.putTop(6, 1, 0);
        x.shadow(6);
        x.putTop(4, 6, 0);
        check.due("not in a shadow tree of the shadow tree", x.shownParent(5), 1);
        x.take(4);
        check.due("not a loose one", x.shownParent(5), 1);
        x.put(4, 6, 0);
        check.due("a child of a top, without slots above it", x.shownParent(5), 4);
    }

    /** "the first slot in the order of its shadow tree, each element ahead of its children" */
    private void firstSlot() {
        Cascadery x = loose(2);
        for (int i = 0; i < 4; i++) {
            x.make(7);
        }
        x.put(1, 0, 0);
        x.shadow(1);
        x.put(2, 1, 0);
        x.putTop(3, 1, 0);
        check.due("the only one", x.shownParent(2), 3);
        x.putTop(4, 1, 1);
        check.due("not a later one", x.shownParent(2), 3);
        x.put(5, 3, 0);
        check.due("not its child", x.shownParent(2), 3);
        x.take(3);
        check.due("the later one", x.shownParent(2), 4);
        x.take(5);
        x.make(1);
        x.putTop(7, 1, 0);
        x.put(5, 7, 0);
        check.due("the child of an earlier top", x.shownParent(2), 5);
        x.make(1);
        x.put(8, 7, 0);
        x.put(6, 8, 0);
        check.due("one deeper, but earlier", x.shownParent(2), 6);
        x.take(6);
        x.put(6, 8, 0);
        x.take(8);
        x.put(8, 7, 1);
        check.due("one deeper, but later", x.shownParent(2), 5);
        x.take(5);
        x.take(6);
        check.due("behind a tree without slots", x.shownParent(2), 4);
        x.put(x.make(1), 8, 0);
        check.due("behind one of three levels", x.shownParent(2), 4);
    }

    /** "whose attribute 1 is the same as that of the child, none counting as one" */
    private void namesOfSlots() {
        for (int name = NONE; name <= 9; name++) {
            Cascadery x = loose(2);
            x.make(7);
            x.put(1, 0, 0);
            x.shadow(1);
            x.put(2, 1, 0);
            x.putTop(3, 1, 0);
            x.setAttribute(3, 1, name);
            for (int wanted = NONE; wanted <= 9; wanted++) {
                x.setAttribute(2, 1, wanted);
                x.setAttribute(2, 0, name);
                check.due("slot " + name + " for " + wanted, x.shownParent(2), wanted == name ? 3 : 1);
            }
        }
    }

    /** "The shown parent of an element is: ..."; "NONE for one that is loose, and for 0" */
    private void shownParents() {
        Cascadery x = loose(4);
        x.make(7);
        check.due("of 0", x.shownParent(0), NONE);
        check.due("of a loose one", x.shownParent(1), NONE);
        x.put(1, 0, 0);
        check.due("of a child", x.shownParent(1), 0);
        x.shadow(1);
        x.putTop(2, 1, 0);
        check.due("of a top, its host", x.shownParent(2), 1);
        x.put(3, 1, 0);
        check.due("of a child of a host, without a slot", x.shownParent(3), 1);
        x.putTop(5, 1, 1);
        check.due("with a slot", x.shownParent(3), 5);
        check.due("of the slot, its host", x.shownParent(5), 1);
        x.put(4, 3, 0);
        check.due("of a child of what is assigned", x.shownParent(4), 3);
        x.take(1);
        check.due("of a loose host", x.shownParent(1), NONE);
        check.due("below it as before", x.shownParent(3) * 100 + x.shownParent(2) * 10 + x.shownParent(4), 513);
    }

    /** "those that are assigned to it, then the tops of its shadow tree, then its children, without those assigned" */
    private void shownChildren() {
        Cascadery x = new Cascadery();
        for (int kind : new int[] {1, 7, 1, 1, 1, 7, 1}) {
            x.make(kind);
        }
        // the slot 2 of the host 1 has the child 4, and a shadow tree with the top 3; 5 and 7 are children of 1
        x.put(1, 0, 0);
        x.shadow(1);
        x.putTop(2, 1, 0);
        x.shadow(2);
        x.put(4, 2, 0);
        x.putTop(3, 2, 0);
        x.put(5, 1, 0);
        x.put(7, 1, 0);
        for (int e = 0; e <= 7; e++) {
            own(x, e, STEP, PLAIN, 1);
            own(x, e, MADE, PLAIN, 1);
        }
        checkOrder(x, 0, 1, 2, 7, 5, 3, 4);
        x.putTop(6, 2, 1);
        checkOrder(x, 0, 1, 2, 7, 5, 3, 6, 4);
        x.setAttribute(5, 1, 0);
        checkOrder(x, 0, 1, 2, 7, 3, 6, 4, 5);
    }

    private void checkOrder(Cascadery x, int... order) {
        for (int i = 0; i < order.length; i++) {
            check.due("the count of " + order[i], x.made(order[i]), i + 1);
        }
    }

    /** "An object is used for at most 512 calls after it has been made" */
    private void lastOf512Calls() {
        Cascadery x = new Cascadery();
        for (int i = 1; i <= 500; i++) {
            check.due("a tick", x.tick(1000), i * 1000);
        }
        check.due("make", x.make(1), 1);
        x.put(1, 0, 0);
        own(x, 1, EASE, PLAIN, 100);
        own(x, 1, GAP, PX, 0);
        x.value(1, GAP);
        own(x, 1, GAP, PX, 100);
        x.seen(1, GAP);
        x.tick(50);
        check.due("call 509", x.seen(1, GAP), 50);
        check.due("call 510", x.flushes(), 2);
        check.due("call 511", x.tick(1), 500051);
        check.due("call 512", x.seen(1, GAP), 51);
    }
}
