/** Promises 13 to 18: drafts, selectors, weights, and what they match. */
public final class SelectorsTest extends TestBase {
    private SelectorsTest() {
        super("SelectorsTest");
    }

    public static void main(String[] args) {
        SelectorsTest test = new SelectorsTest();
        test.wrongTests();
        test.fullDrafts();
        test.weights();
        test.simpleTests();
        test.changes();
        test.places();
        test.combinators();
        test.inner();
        test.hosts();
        test.parts();
        test.wrongQuestions();
        test.check.end();
    }

    /**
     * 0 has the children 1, 2, 3, of the kinds 1, 2, 1; 2 has the children 4 and 5, of the kinds 3 and 1, and a shadow
     * tree with the tops 6 and 7, of the kinds 3 and 1; 7 has the child 8 and a shadow tree with the top 9.
     */
    private static Cascadery forest() {
        Cascadery x = new Cascadery();
        for (int kind : new int[] {1, 2, 1, 3, 1, 3, 1, 2, 4, 5}) {
            x.make(kind);
        }
        for (int e = 1; e <= 3; e++) {
            x.put(e, 0, e - 1);
        }
        x.put(4, 2, 0);
        x.put(5, 2, 1);
        x.shadow(2);
        x.putTop(6, 2, 0);
        x.putTop(7, 2, 1);
        x.put(8, 7, 0);
        x.shadow(7);
        x.putTop(9, 7, 0);
        return x;
    }

    private void wrongTests() {
        Cascadery x = new Cascadery();
        int[][] wrong = {{-1, 0, 0}, {10, 0, 0}, {KIND, 8, 0}, {KIND, -1, 0}, {CLASS, 8, 0}, {CLASS, -1, 0}, {STATE, 4, 0},
            {STATE, -1, 0}, {PART, 4, 0}, {PART, -1, 0}, {ATTRIBUTE, 2, 0}, {ATTRIBUTE, -1, 0}, {ATTRIBUTE, 0, 10},
            {ATTRIBUTE, 0, -1}, {NTH, 10, 0}, {NTH, -10, 0}, {NTH, 0, 10}, {NTH, 0, -10}, {HAS, 4, 0}, {HAS, -1, 0},
            {Integer.MIN_VALUE, 0, 0}, {Integer.MAX_VALUE, 0, 0}, {NTH, Integer.MIN_VALUE, 1}};
        for (int[] w : wrong) {
            check.argument("test " + w[0] + " " + w[1] + " " + w[2], () -> x.test(w[0], w[1], w[2]));
        }
        check.bounds("NOT without selectors", () -> x.test(NOT, 0, 0));
        check.bounds("IS of a negative one", () -> x.test(IS, -1, 0));
        check.bounds("HAS without selectors", () -> x.test(HAS, BELOW, 0));
        check.argument("join -1", () -> x.join(-1));
        check.argument("join 4", () -> x.join(4));
        int host = selected(x, HOST, 77, -77);
        int part = selected(x, PART, 3, 99);
        for (int s : new int[] {host, part}) {
            check.argument("NOT of HOST or PART", () -> x.test(NOT, s, 0));
            check.argument("IS of HOST or PART", () -> x.test(IS, s, 0));
            check.argument("HAS of HOST or PART", () -> x.test(HAS, CHILD, s));
        }
        check.argument("the combinator goes ahead of the selector", () -> x.test(HAS, 4, 9));
        check.due("nothing of that is in the draft", x.test(KIND, 7, Integer.MAX_VALUE), 1);
    }

    private void fullDrafts() {
        Cascadery x = new Cascadery();
        for (int i = 1; i <= 4; i++) {
            check.due("tests", x.test(NTH, -9, 9), i);
        }
        check.state("a fifth test", () -> x.test(KIND, 0, 0));
        check.argument("a fifth one that is wrong", () -> x.test(KIND, 8, 0));
        check.bounds("a fifth one of no selector", () -> x.test(NOT, 0, 0));
        for (int i = 2; i <= 4; i++) {
            check.due("compounds", x.join(i - 1), i);
            check.due("tests of a new one", x.test(HOST, 0, 0), 1);
        }
        check.state("a fifth compound", () -> x.join(0));
        check.argument("a fifth one that is wrong", () -> x.join(4));
        check.due("PART", x.test(PART, 0, 0), 2);
        check.state("a second PART", () -> x.test(PART, 1, 0));
        check.due("another test behind PART", x.test(CLASS, 1, 0), 3);
        check.due("the selector", x.select(), 0);
        check.due("the draft begins anew", x.test(PART, 0, 0), 1);
        check.state("no join behind PART", () -> x.join(0));
        for (int i = 1; i < 30; i++) {
            check.due("select", x.select(), i);
        }
        check.state("the 31st", x::select);
        check.due("an empty selector weighs nothing", x.weight(29), 0);
    }

    private void weights() {
        Cascadery x = new Cascadery();
        check.bounds("no selector", () -> x.weight(0));
        int one = selected(x, KIND, 1, 0, CLASS, 1, 0, STATE, 1, 0, ATTRIBUTE, 1, 1);
        check.due("KIND and hundreds", x.weight(one), 301);
        int two = selected(x, NTH, 1, 1, JOIN, BELOW, 0, NOT, one, 0, IS, one, 0, HAS, NEXT, one);
        check.due("those inside", x.weight(two), 100 + 3 * 301);
        check.due("HOST and PART", x.weight(selected(x, HOST, 0, 0, JOIN, CHILD, 0, PART, 0, 0)), 101);
        check.bounds("behind the last one", () -> x.weight(3));
        check.bounds("a negative one", () -> x.weight(-1));
        int wanted = x.weight(two);
        int s = two;
        for (int i = 0; i < 15; i++) {
            s = selected(x, NOT, s, 0, IS, s, 0, HAS, BELOW, s, IS, s, 0);
            wanted *= 4;
            check.due("as an int", x.weight(s), wanted);
        }
        check.due("deep ones match at once", x.allThat(s, -1), 0);
    }

    private void simpleTests() {
        Cascadery x = forest();
        x.setClass(1, 3, true);
        x.setClass(4, 3, true);
        x.setState(3, 2, true);
        x.setAttribute(5, 0, 0);
        x.setAttribute(5, 1, 9);
        check.due("KIND", x.allThat(selected(x, KIND, 1, 0), -1), set(1, 3, 5));
        check.due("CLASS", x.allThat(selected(x, CLASS, 3, 0), -1), set(1, 4));
        check.due("STATE", x.allThat(selected(x, STATE, 2, 0), -1), set(3));
        check.due("ATTRIBUTE 0", x.allThat(selected(x, ATTRIBUTE, 0, 0), -1), set(5));
        check.due("ATTRIBUTE 1", x.allThat(selected(x, ATTRIBUTE, 1, 9), -1), set(5));
        check.due("none is not 0", x.allThat(selected(x, ATTRIBUTE, 1, 0), -1), 0);
        check.due("all tests", x.allThat(selected(x, KIND, 1, 0, CLASS, 3, 0), -1), set(1));
        int empty = selected(x);
        check.due("all of the document's tree", x.allThat(empty, -1), set(0, 1, 2, 3, 4, 5));
        check.due("all of a shadow tree", x.allThat(empty, 2), set(6, 7, 8));
        check.due("all of one deeper", x.allThat(empty, 7), set(9));
        check.due("none that is loose", x.matches(10, empty, -1), false);
        x.take(2);
        check.due("out of the document", x.allThat(empty, -1), set(0, 1, 3));
        check.due("shadow trees of loose ones have elements", x.allThat(empty, 2), set(6, 7, 8));
        x.setClass(3, 3, true);
        check.due("it is as of now", x.allThat(1, -1), set(1, 3));
    }

    /** What matches follows each change at once. */
    private void changes() {
        Cascadery x = forest();
        selected(x, CLASS, 0, 0);
        selected(x, STATE, 0, 0);
        selected(x, ATTRIBUTE, 0, 1);
        selected(x, ATTRIBUTE, 1, 1);
        selected(x, PART, 2, 0);
        for (int s = 0; s < 5; s++) {
            check.due("nothing matches " + s, x.allThat(s, -1), 0);
        }
        x.setClass(1, 0, true);
        check.due("a class", x.allThat(0, -1), set(1));
        x.setState(1, 0, true);
        check.due("a state", x.allThat(1, -1), set(1));
        x.setAttribute(1, 0, 1);
        check.due("attribute 0", x.allThat(2, -1), set(1));
        x.setAttribute(1, 1, 1);
        check.due("attribute 1", x.allThat(3, -1), set(1));
        x.setPart(6, 2);
        check.due("a part", x.allThat(4, -1), set(6));
        x.setState(1, 0, false);
        check.due("no state", x.allThat(1, -1), 0);
        x.setAttribute(1, 0, -1);
        check.due("no attribute", x.allThat(2, -1), 0);
        int nth = selected(x, HOST, 0, 0, NTH, 0, 1);
        check.due("the host is the second one", x.allThat(nth, 2), 0);
        x.take(2);
        check.due("place 1 without siblings", x.allThat(nth, 2), set(2));
    }

    private void places() {
        Cascadery x = new Cascadery();
        for (int e = 1; e <= 6; e++) {
            x.make(1);
            x.put(e, 0, e - 1);
        }
        int[][] rows = {{0, 1, set(0, 1)}, {0, 3, set(3)}, {0, 0, 0}, {0, -1, 0}, {2, 0, set(2, 4, 6)},
            {2, 1, set(0, 1, 3, 5)}, {3, -1, set(2, 5)}, {-1, 3, set(0, 1, 2, 3)}, {-2, 5, set(0, 1, 3, 5)},
            {1, 4, set(4, 5, 6)}, {-1, 0, 0}, {1, -9, set(0, 1, 2, 3, 4, 5, 6)}, {9, 6, set(6)}, {9, 9, 0}};
        for (int[] row : rows) {
            check.due("NTH " + row[0] + " " + row[1], x.allThat(selected(x, NTH, row[0], row[1]), -1), row[2]);
        }
        x.take(1);
        check.due("places behind move up", x.allThat(1, -1), set(4));
        x.put(1, 0, 5);
        check.due("the last place", x.allThat(12, -1), set(1));
    }

    private void combinators() {
        Cascadery x = forest();
        int kind1 = selected(x, KIND, 1, 0);
        check.due("BELOW", x.allThat(selected(x, KIND, 0, 0, JOIN, BELOW, 0, KIND, 1, 0), -1), set(1, 3, 5));
        check.due("CHILD", x.allThat(selected(x, KIND, 0, 0, JOIN, CHILD, 0, KIND, 1, 0), -1), set(1, 3));
        check.due("NEXT", x.allThat(selected(x, KIND, 1, 0, JOIN, NEXT, 0), -1), set(2));
        check.due("LATER", x.allThat(selected(x, KIND, 1, 0, JOIN, LATER, 0), -1), set(2, 3));
        check.due("four compounds", x.allThat(selected(x, KIND, 0, 0, JOIN, CHILD, 0, KIND, 1, 0, JOIN, NEXT, 0, JOIN, BELOW,
                0, KIND, 3, 0), -1), set(4));
        check.due("among tops", x.allThat(selected(x, KIND, 3, 0, JOIN, NEXT, 0), 2), set(7));
        check.due("below in a shadow tree", x.allThat(selected(x, KIND, 1, 0, JOIN, CHILD, 0), 2), set(8));
        check.due("not over the edge of a tree", x.allThat(selected(x, KIND, 2, 0, JOIN, BELOW, 0, KIND, 3, 0), 2), 0);
        check.due("HAS BELOW", x.allThat(selected(x, HAS, BELOW, kind1), -1), set(0, 2));
        check.due("HAS CHILD", x.allThat(selected(x, HAS, CHILD, kind1), -1), set(0, 2));
        check.due("HAS NEXT", x.allThat(selected(x, HAS, NEXT, kind1), -1), set(2, 4));
        check.due("HAS LATER", x.allThat(selected(x, HAS, LATER, kind1), -1), set(1, 2, 4));
        int kind3 = selected(x, KIND, 3, 0);
        check.due("HAS BELOW further down", x.allThat(selected(x, HAS, BELOW, kind3), -1), set(0, 2));
        check.due("HAS CHILD not further down", x.allThat(selected(x, HAS, CHILD, kind3), -1), set(2));
    }

    private void inner() {
        Cascadery x = forest();
        int kind1 = selected(x, KIND, 1, 0);
        int row = selected(x, KIND, 2, 0, JOIN, CHILD, 0, KIND, 1, 0);
        check.due("NOT", x.allThat(selected(x, NOT, kind1, 0), -1), set(0, 2, 4));
        check.due("IS", x.allThat(selected(x, IS, kind1, 0), 2), set(7));
        check.due("NOT of several compounds", x.allThat(selected(x, NOT, row, 0, KIND, 1, 0), -1), set(1, 3));
        check.due("IS of several compounds", x.allThat(selected(x, IS, row, 0), -1), set(5));
        check.due("NOT of NOT", x.allThat(selected(x, NOT, 2, 0), -1), set(1, 3, 5));
        check.due("HAS of several compounds", x.allThat(selected(x, HAS, CHILD, row), -1), set(2));
        check.due("NOT in another compound", x.allThat(selected(x, NOT, kind1, 0, JOIN, CHILD, 0, KIND, 3, 0), -1), set(4));
    }

    private void hosts() {
        Cascadery x = forest();
        int host = selected(x, HOST, 0, 0);
        check.due("no host of the document", x.allThat(host, -1), 0);
        check.due("the host", x.allThat(host, 2), set(2));
        check.due("if it matches the rest", x.allThat(selected(x, KIND, 2, 0, HOST, 0, 0), 2), set(2));
        check.due("not if it does not", x.allThat(selected(x, HOST, 0, 0, KIND, 1, 0), 2), 0);
        check.due("the parent of its tops", x.allThat(selected(x, HOST, 0, 0, JOIN, CHILD, 0), 2), set(6, 7));
        check.due("above all", x.allThat(selected(x, HOST, 0, 0, JOIN, BELOW, 0), 2), set(6, 7, 8));
        check.due("no sibling", x.allThat(selected(x, JOIN, LATER, 0, HOST, 0, 0), 2), 0);
        check.due("not below its own tree", x.allThat(selected(x, JOIN, BELOW, 0, HOST, 0, 0), 2), 0);
        int kind1 = selected(x, KIND, 1, 0);
        int kind2 = selected(x, KIND, 2, 0);
        int kind3 = selected(x, KIND, 3, 0);
        check.due("HAS CHILD of a host: a top", x.allThat(selected(x, HOST, 0, 0, HAS, CHILD, kind3), 2), set(2));
        check.due("HAS CHILD not deeper", x.allThat(selected(x, HOST, 0, 0, HAS, CHILD, kind2), 2), 0);
        check.due("HAS BELOW of a host", x.allThat(selected(x, HOST, 0, 0, HAS, BELOW, kind2), 2), set(2));
        check.due("HAS NEXT of a host: none of the tree", x.allThat(selected(x, HOST, 0, 0, HAS, NEXT, kind1), 2), 0);
        check.due("its own place", x.allThat(selected(x, HOST, 0, 0, NTH, 0, 2), 2), set(2));
        check.due("IS matches only elements of the tree", x.allThat(selected(x, HOST, 0, 0, IS, kind2, 0), 2), 0);
        check.due("so NOT does match", x.allThat(selected(x, HOST, 0, 0, NOT, kind2, 0), 2), set(2));
    }

    private void parts() {
        Cascadery x = forest();
        x.setPart(7, 1);
        x.setPart(8, 1);
        x.setPart(9, 1);
        x.setPart(4, 1);
        int part = selected(x, PART, 1, 0);
        check.due("in shadow trees of the document's elements", x.allThat(part, -1), set(7, 8));
        check.due("in shadow trees of those of a shadow tree", x.allThat(part, 2), set(9));
        check.due("none", x.allThat(part, 7), 0);
        check.due("another part", x.allThat(selected(x, PART, 2, 0), -1), 0);
        check.due("the host matches the rest", x.allThat(selected(x, PART, 1, 0, KIND, 2, 0), -1), set(7, 8));
        check.due("the host does not", x.allThat(selected(x, KIND, 1, 0, PART, 1, 0), -1), 0);
        check.due("behind a combinator", x.allThat(selected(x, KIND, 1, 0, JOIN, NEXT, 0, PART, 1, 0), -1), set(7, 8));
        check.due("HOST and PART", x.allThat(selected(x, HOST, 0, 0, PART, 1, 0), 2), set(7, 8));
        x.setPart(7, -1);
        check.due("without the part", x.allThat(part, -1), set(8));
    }

    private void wrongQuestions() {
        Cascadery x = forest();
        int empty = selected(x);
        for (int wrong : new int[] {-1, 11, Integer.MIN_VALUE, Integer.MAX_VALUE}) {
            check.bounds("matches " + wrong, () -> x.matches(wrong, empty, -1));
            check.bounds("matches of selector " + wrong, () -> x.matches(0, wrong, -1));
            check.bounds("allThat of selector " + wrong, () -> x.allThat(wrong, -1));
            check.bounds("matches in " + wrong, () -> x.matches(0, empty, wrong == -1 ? -2 : wrong));
            check.bounds("allThat in " + wrong, () -> x.allThat(empty, wrong == -1 ? -2 : wrong));
        }
        check.bounds("matches in what is no host", () -> x.matches(0, empty, 1));
        check.bounds("allThat in what is no host", () -> x.allThat(empty, 0));
        check.due("in the wrong tree", x.matches(6, empty, -1), false);
        check.due("in the right one", x.matches(6, empty, 2), true);
        check.due("the host is not in its tree", x.matches(2, empty, 2), false);
    }
}
