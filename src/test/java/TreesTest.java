/** Promises 2 to 12: elements, where they are, and what they have. */
public final class TreesTest extends TestBase {
    private TreesTest() {
        super("TreesTest");
    }

    public static void main(String[] args) {
        TreesTest test = new TreesTest();
        test.make();
        test.shadow();
        test.put();
        test.putTop();
        test.take();
        test.features();
        test.slots();
        test.nestedSlots();
        test.isIn();
        test.check.end();
    }

    private static Cascadery with(int... kinds) {
        Cascadery x = new Cascadery();
        for (int kind : kinds) {
            x.make(kind);
        }
        return x;
    }

    private void make() {
        Cascadery x = new Cascadery();
        for (int kind : new int[] {-1, 8, LEAST, MOST}) {
            check.argument("make " + kind, () -> x.make(kind));
        }
        for (int i = 1; i < 30; i++) {
            check.due("make", x.make(i % 8), i);
        }
        check.state("the 31st", () -> x.make(0));
        check.argument("the kind goes ahead of the number", () -> x.make(8));
        check.due("the last one is there", x.isIn(29), false);
        check.bounds("none behind it", () -> x.isIn(30));
        check.due("what is made is loose", x.shownParent(29), -1);
    }

    private void shadow() {
        Cascadery x = with(1);
        for (int e : new int[] {-1, 2, 30, LEAST, MOST}) {
            check.bounds("shadow " + e, () -> x.shadow(e));
        }
        x.shadow(1);
        check.state("a second shadow", () -> x.shadow(1));
        x.shadow(0);
        check.state("a second shadow of 0", () -> x.shadow(0));
        check.due("an empty shadow tree has no elements", x.select() + x.allThat(0, 1), 0);
    }

    private void put() {
        Cascadery x = with(1, 2, 3, 4, 5);
        check.bounds("no element", () -> x.put(6, 0, 0));
        check.bounds("no parent", () -> x.put(1, 6, 0));
        check.bounds("a negative one", () -> x.put(-1, 0, 0));
        check.bounds("a negative parent", () -> x.put(1, -1, 0));
        check.bounds("a place behind the last one", () -> x.put(1, 0, 1));
        check.bounds("a negative place", () -> x.put(1, 0, -1));
        check.bounds("the place goes ahead of the state", () -> x.put(0, 1, 1));
        check.state("0", () -> x.put(0, 1, 0));
        check.state("into itself", () -> x.put(1, 1, 0));
        x.put(1, 0, 0);
        x.put(2, 0, 0);
        x.put(3, 0, 1);
        x.put(4, 0, 3);
        // the order is now 2 3 1 4, as NTH tells
        x.test(Cascadery.KIND, 0, 0);
        x.join(Cascadery.CHILD);
        check.due("of the first selector", x.select(), 0);
        int[] order = {2, 3, 1, 4};
        for (int i = 0; i < order.length; i++) {
            x.test(Cascadery.NTH, 0, i + 1);
            x.test(Cascadery.IS, 0, 0);
            check.due("place " + i, x.allThat(x.select(), -1), 1 << order[i]);
        }
        check.state("what is not loose", () -> x.put(2, 5, 0));
        check.bounds("a place behind the last of four", () -> x.put(5, 0, 5));
        x.put(5, 1, 0);
        x.take(1);
        check.state("below itself", () -> x.put(1, 5, 0));
        x.put(1, 2, 0);
        check.due("its child comes with it", x.shownParent(5) * 10 + x.shownParent(1), 12);
    }

    private void putTop() {
        Cascadery x = with(1, 2, 3, 4);
        x.put(1, 0, 0);
        check.bounds("no shadow tree", () -> x.putTop(2, 1, 0));
        x.shadow(1);
        check.bounds("no element", () -> x.putTop(5, 1, 0));
        check.bounds("no host", () -> x.putTop(2, 5, 0));
        check.bounds("NONE as the host", () -> x.putTop(2, -1, 0));
        check.bounds("a place behind the last top", () -> x.putTop(2, 1, 1));
        check.bounds("a negative place", () -> x.putTop(2, 1, -1));
        check.state("0", () -> x.putTop(0, 1, 0));
        check.state("what is not loose", () -> x.putTop(1, 1, 0));
        x.putTop(2, 1, 0);
        x.put(3, 2, 0);
        x.shadow(3);
        check.state("what is a top already", () -> x.putTop(2, 3, 0));
        x.take(1);
        check.state("into its own shadow tree", () -> x.putTop(1, 1, 0));
        check.state("into a shadow tree below that", () -> x.putTop(1, 3, 0));
        check.state("as a child there", () -> x.put(1, 3, 0));
        x.putTop(4, 3, 0);
        check.due("the host is the shown parent", x.shownParent(4), 3);
        check.due("not in the document", x.isIn(4), false);
        x.put(1, 0, 0);
        check.due("in it with all below", x.isIn(4), true);
    }

    private void take() {
        Cascadery x = with(1, 2, 3);
        check.bounds("no element", () -> x.take(4));
        check.bounds("a negative one", () -> x.take(-1));
        check.state("0", () -> x.take(0));
        check.state("a loose one", () -> x.take(1));
        x.put(1, 0, 0);
        x.put(2, 1, 0);
        x.shadow(2);
        x.putTop(3, 2, 0);
        check.due("a top tells 100 and the host", x.take(3), 102);
        check.state("twice", () -> x.take(3));
        x.putTop(3, 2, 0);
        check.due("a child tells the parent", x.take(1), 0);
        check.due("what is below comes with it", x.shownParent(3), 2);
        check.due("out of the document", x.isIn(3), false);
        check.due("its child stays", x.take(2), 1);
    }

    private void features() {
        Cascadery x = with(1);
        for (int e : new int[] {-1, 2, LEAST, MOST}) {
            check.bounds("setClass " + e, () -> x.setClass(e, 0, true));
            check.bounds("setState " + e, () -> x.setState(e, 9, true));
            check.bounds("setAttribute " + e, () -> x.setAttribute(e, 9, 9));
            check.bounds("setPart " + e, () -> x.setPart(e, 9));
        }
        for (int wrong : new int[] {-1, 8, LEAST, MOST}) {
            check.argument("class " + wrong, () -> x.setClass(1, wrong, true));
            check.argument("state " + wrong, () -> x.setState(1, wrong / 2 == 0 ? -1 : wrong / 2, true));
            check.argument("attribute " + wrong, () -> x.setAttribute(1, wrong == 8 ? 2 : wrong, 0));
            check.argument("part " + wrong, () -> x.setPart(1, wrong == 8 ? 4 : wrong == -1 ? -2 : wrong));
        }
        check.argument("number 10", () -> x.setAttribute(1, 0, 10));
        check.argument("number -2", () -> x.setAttribute(1, 1, -2));
        check.due("no class at first", x.setClass(1, 7, true), false);
        check.due("the class", x.setClass(1, 7, false), true);
        check.due("it is gone", x.setClass(1, 7, true), false);
        check.due("another class", x.setClass(1, 0, true), false);
        check.due("of another element", x.setClass(0, 7, true), false);
        check.due("no state at first", x.setState(1, 3, true), false);
        check.due("the state", x.setState(1, 3, true), true);
        check.due("it is taken away", x.setState(1, 3, false), true);
        check.due("it is gone", x.setState(1, 3, false), false);
        check.due("no number at first", x.setAttribute(1, 0, 9), -1);
        check.due("the other attribute", x.setAttribute(1, 1, 0), -1);
        check.due("the number", x.setAttribute(1, 0, -1), 9);
        check.due("none again", x.setAttribute(1, 0, 0), -1);
        check.due("no part at first", x.setPart(1, 3), -1);
        check.due("the part", x.setPart(1, -1), 3);
        check.due("none again", x.setPart(1, 0), -1);
    }

    private void slots() {
        Cascadery x = with(1, 7, 7, 2, 7);
        for (int e : new int[] {-1, 6, LEAST, MOST}) {
            check.bounds("shownParent " + e, () -> x.shownParent(e));
        }
        check.due("0 has none", x.shownParent(0), -1);
        x.put(1, 0, 0);
        x.shadow(1);
        x.put(4, 1, 0);
        check.due("without a slot the host", x.shownParent(4), 1);
        x.putTop(2, 1, 0);
        check.due("the slot", x.shownParent(4), 2);
        x.put(3, 2, 0);
        check.due("each element ahead of its children", x.shownParent(4), 2);
        x.setAttribute(4, 1, 3);
        check.due("no slot of this name", x.shownParent(4), 1);
        x.setAttribute(3, 1, 3);
        check.due("the slot below", x.shownParent(4), 3);
        x.setAttribute(2, 1, 3);
        check.due("the first slot of the name", x.shownParent(4), 2);
        x.setAttribute(2, 0, 3);
        x.setAttribute(2, 1, -1);
        check.due("attribute 0 is no name", x.shownParent(4), 3);
        x.take(3);
        check.due("the slot is gone", x.shownParent(4), 1);
        x.put(5, 4, 0);
        check.due("a slot outside of shadow trees is none", x.shownParent(5), 4);
        check.due("a top has the host", x.shownParent(2), 1);
        check.due("a loose one has none", x.shownParent(3), -1);
    }

    private void nestedSlots() {
        Cascadery x = with(1, 2, 7, 7, 3, 7);
        // 1 has a shadow tree with the top 2, which has one with the slot 4; 3 is a slot, and a child of 2
        x.shadow(1);
        x.putTop(2, 1, 0);
        x.shadow(2);
        x.putTop(4, 2, 0);
        x.put(3, 2, 0);
        x.put(5, 1, 0);
        check.due("slots of loose trees count", x.shownParent(5), 3);
        check.due("a slot may be assigned to a slot", x.shownParent(3), 4);
        x.putTop(6, 1, 0);
        check.due("an earlier top is the first one", x.shownParent(5), 6);
        x.take(6);
        x.putTop(6, 1, 1);
        check.due("a later top is not", x.shownParent(5), 3);
        x.shadow(3);
        check.due("a slot may be a host", x.shownParent(5), 3);
    }

    private void isIn() {
        Cascadery x = with(1, 2, 3);
        for (int e : new int[] {-1, 4, LEAST, MOST}) {
            check.bounds("isIn " + e, () -> x.isIn(e));
        }
        x.put(2, 1, 0);
        x.shadow(2);
        x.putTop(3, 2, 0);
        check.due("a loose tree is out", x.isIn(2) || x.isIn(1) || x.isIn(3), false);
        x.shadow(0);
        x.putTop(1, 0, 0);
        check.due("shadow trees of the document are in", x.isIn(1) && x.isIn(2) && x.isIn(3), true);
    }
}
