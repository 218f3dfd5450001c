/** Objects in states in which much can go wrong: what refused calls are made on. */
final class Scene {
    private static final int NONE = Cascadery.NONE;

    private Scene() { }

    /**
     * 0 has the children 1, 2 and 6; 2 has the children 4 and 5, and a shadow tree with the tops 3 and 7, both slots;
     * 9 is loose, with the child 8 and a shadow tree with the top 10; 8 and 10 have empty shadow trees; 11 is loose.
     * There are 6 selectors, 2 of which has HOST and 3 PART, 3 sheets, 5 rules and a listener; the draft has two
     * compounds, of which the last one has PART, and matches 3. A transition and an animation go on, and some elements are marked.
     */
    static Cascadery rich() {
        Cascadery x = new Cascadery();
        putTogether(x);
        select(x);
        declare(x);
        x.animation(1, 20, 2, true);
        x.frame(1, Cascadery.TINT, 5, 100);
        x.frame(1, Cascadery.TINT, 10, 7);
        x.listen(1, Cascadery.TINT, 2, 3);
        x.setWidth(800);
        x.value(0, 0);
        x.tick(3);
        x.declare(101, Cascadery.GAP, Cascadery.PX, 50, false);
        x.value(1, Cascadery.GAP);
        x.tick(2);
        x.declare(106, Cascadery.GAP, Cascadery.PX, 3, false);
        x.setClass(4, 0, true);
        x.test(Cascadery.KIND, 0, 0);
        x.join(Cascadery.CHILD);
        x.test(Cascadery.PART, 2, 0);
        return x;
    }

    private static void putTogether(Cascadery x) {
        for (int kind : new int[] {1, 2, 7, 1, 1, 2, 7, 3, 1, 0, 1}) {
            x.make(kind);
        }
        x.put(1, 0, 0);
        x.put(2, 0, 1);
        x.put(6, 0, 2);
        x.shadow(2);
        x.put(4, 2, 0);
        x.put(5, 2, 1);
        x.putTop(3, 2, 0);
        x.putTop(7, 2, 1);
        x.setAttribute(7, 1, 5);
        x.setAttribute(5, 1, 5);
        x.put(8, 9, 0);
        x.shadow(9);
        x.putTop(10, 9, 0);
        x.shadow(8);
        x.shadow(10);
        x.setClass(1, 0, true);
        x.setState(4, 1, true);
        x.setAttribute(6, 0, 9);
        x.setPart(3, 2);
    }

    private static void select(Cascadery x) {
        TestBase.selected(x, Cascadery.CLASS, 0, 0);
        TestBase.selected(x, Cascadery.KIND, 0, 0, TestBase.JOIN, Cascadery.BELOW, 0, Cascadery.KIND, 1, 0);
        TestBase.selected(x, Cascadery.HOST, 0, 0);
        TestBase.selected(x, Cascadery.PART, 2, 0);
        TestBase.selected(x, Cascadery.NTH, 2, 1);
        TestBase.selected(x, Cascadery.NOT, 0, 0);
    }

    private static void declare(Cascadery x) {
        x.sheet(Cascadery.AUTHOR, NONE, NONE);
        x.sheet(Cascadery.USER, NONE, 1);
        x.sheet(Cascadery.AUTHOR, 2, NONE);
        x.rule(0, 0);
        x.rule(0, 1);
        x.rule(1, 5);
        x.rule(2, 2);
        x.rule(0, 3);
        x.when(1, Cascadery.WIDE, 500);
        x.turn(1, true);
        x.declare(0, Cascadery.TINT, Cascadery.PLAIN, 5, false);
        x.declare(1, Cascadery.EDGE, Cascadery.PX, 7, true);
        x.declare(2, Cascadery.STEP, Cascadery.PLAIN, 1, false);
        x.declare(2, Cascadery.MADE, Cascadery.PLAIN, 1, false);
        x.declare(3, Cascadery.SIZE, Cascadery.EM, 200, false);
        x.declare(4, Cascadery.EDGE, Cascadery.HELD, 20, false);
        x.declare(100, Cascadery.HOLDS, Cascadery.PLAIN, 1, false);
        x.declare(101, Cascadery.EASE, Cascadery.PLAIN, 10, false);
        x.declare(102, 12, Cascadery.PX, 40, false);
        x.declareVar(104, Cascadery.SPAN, 12, Cascadery.PX, 9, false);
        x.declare(106, Cascadery.PLAY, Cascadery.PLAIN, 1, false);
    }

    /** Like the rich scene, but with as much of everything as there may be, the draft too; only 6 is marked. */
    static Cascadery full() {
        Cascadery x = new Cascadery();
        putTogether(x);
        select(x);
        declare(x);
        for (int e = 12; e < 30; e++) {
            x.make(1);
        }
        for (int selector = 6; selector < 30; selector++) {
            x.select();
        }
        for (int sheet = 3; sheet < 8; sheet++) {
            x.sheet(Cascadery.AGENT, NONE, 0);
        }
        for (int rule = 5; rule < 40; rule++) {
            x.rule(7, 29);
        }
        for (int listener = 0; listener < 6; listener++) {
            x.listen(1, Cascadery.TINT, listener, 3);
        }
        x.value(0, 0);
        x.declare(106, Cascadery.GAP, Cascadery.PX, 3, false);
        fillDraft(x);
        return x;
    }

    private static void fillDraft(Cascadery x) {
        for (int compound = 0; compound < 4; compound++) {
            for (int i = 0; i < 4; i++) {
                x.test(Cascadery.NTH, 1, 1);
            }
            if (compound < 3) {
                x.join(Cascadery.CHILD);
            }
        }
    }

    /** As much of the document's tree as there may be: each element is a child of the one ahead. */
    static Cascadery deep() {
        Cascadery x = new Cascadery();
        for (int e = 1; e < 30; e++) {
            x.make(e % 8);
            x.put(e, e - 1, 0);
        }
        x.shadow(29);
        x.take(1);
        return x;
    }
}
