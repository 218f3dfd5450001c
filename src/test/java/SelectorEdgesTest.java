/** The edges of promises 13 to 18, and of what the document says of SELECTORS: a test for each sentence that names one. */
public final class SelectorEdgesTest extends TestBase {
    private SelectorEdgesTest() {
        super("SelectorEdgesTest");
    }

    public static void main(String[] args) {
        SelectorEdgesTest test = new SelectorEdgesTest();
        test.draftAtFirst();
        test.fourTests();
        test.fourCompounds();
        test.thirtySelectors();
        test.testNumbers();
        test.argumentsOfTests();
        test.innerSelectors();
        test.whatDoesNotMatter();
        test.firstThatApplies();
        test.combinatorNumbers();
        test.barredInside();
        test.onePart();
        test.partGoesBehindAll();
        test.featuresTested();
        test.asOfNow();
        test.asOfTwoChanges();
        test.twoInside();
        test.nth();
        test.placeWithoutSiblings();
        test.reachedInDocument();
        test.reachedInShadow();
        test.hostOnly();
        test.hostBesideItsTree();
        test.onlyElementsOfTheTree();
        test.parts();
        test.manyCompounds();
        test.deepInside();
        test.weights();
        test.wrappedWeights();
        test.wrappedPrecedence();
        test.askedNumbers();
        test.check.end();
    }

    /** "a draft, that has one compound without tests at first"; "it begins anew then" */
    private void draftAtFirst() {
        Cascadery x = row(2);
        check.due("an empty one", x.select(), 0);
        check.due("matches all", x.allThat(0, NONE), set(0, 1, 2));
        check.due("weighs nothing", x.weight(0), 0);
        check.due("one test", x.test(KIND, 0, 0), 1);
        check.due("one compound more", x.join(CHILD), 2);
        check.due("its first test", x.test(PART, 3, 0), 1);
        check.due("the second one", x.select(), 1);
        check.due("no tests any more", x.test(KIND, 1, 0), 1);
        check.due("no compounds any more", x.join(BELOW), 2);
        check.due("no PART any more", x.test(PART, 3, 0), 1);
        check.due("the third one", x.select(), 2);
        check.due("an empty one again", x.select(), 3);
        check.due("matches all again", x.allThat(3, NONE), set(0, 1, 2));
    }

    /** "A compound is a row of tests, 0 to 4." "IllegalStateException if the compound has 4 tests" */
    private void fourTests() {
        int[][] tests = {{KIND, 1, 0}, {CLASS, 1, 0}, {STATE, 1, 0}, {ATTRIBUTE, 1, 1}, {NTH, 1, 1}, {NOT, 0, 0}, {IS, 0, 0},
            {HAS, CHILD, 0}, {HOST, 0, 0}, {PART, 1, 0}};
        for (int[] t : tests) {
            Cascadery x = new Cascadery();
            x.select();
            for (int i = 1; i <= 3; i++) {
                check.due("test " + i, x.test(KIND, 0, 0), i);
            }
            check.due("the fourth, " + t[0], x.test(t[0], t[1], t[2]), 4);
            check.state("a fifth, " + t[0], () -> x.test(t[0], t[1], t[2]));
            check.state("a fifth, KIND", () -> x.test(KIND, 0, 0));
        }
        Cascadery x = row(1);
        draft(x, KIND, 1, 0, NTH, 1, 1, KIND, 1, 0, NTH, 0, 2);
        check.due("the fourth one counts", x.allThat(x.select(), NONE), 0);
    }

    /** "A selector is a row of compounds, 1 to 4"; "IllegalStateException if it has 4, or PART" */
    private void fourCompounds() {
        Cascadery x = chain(5);
        for (int i = 2; i <= 4; i++) {
            check.due("compound " + i, x.join(CHILD), i);
        }
        for (int c = BELOW; c <= LATER; c++) {
            int combinator = c;
            check.state("a fifth one", () -> x.join(combinator));
        }
        for (int i = 1; i <= 4; i++) {
            check.due("tests of the fourth", x.test(NTH, 1, 1), i);
        }
        check.state("a fifth one behind four tests", () -> x.join(BELOW));
        check.due("three above it", x.allThat(x.select(), NONE), set(3, 4, 5));
    }

    /** "at most 30 are made"; "IllegalStateException if there are 30" */
    private void thirtySelectors() {
        Cascadery x = row(1);
        for (int i = 0; i < 29; i++) {
            check.due("select", x.select(), i);
        }
        x.test(KIND, 1, 0);
        check.bounds("not there yet", () -> x.weight(29));
        check.due("the last one", x.select(), 29);
        check.due("matches as others", x.allThat(29, NONE), set(1));
        check.state("one more", x::select);
        check.due("the draft goes on", x.test(NOT, 29, 0), 1);
        check.state("one more with a test", x::select);
        check.due("it stays as it was", x.test(IS, 29, 0), 2);
        check.bounds("no 30", () -> x.weight(30));
    }

    /** "test: KIND to PART" */
    private void testNumbers() {
        range("test", KIND, PART, ARGUMENT, test -> {
            Cascadery x = new Cascadery();
            x.select();
            x.test(test, 0, 0);
        });
    }

    /** "0 to 7, 0 to 7, 0 to 3 and 0 to 3 for KIND, CLASS, STATE and PART; 0 or 1 for ATTRIBUTE; -9 to 9 for NTH; ..." */
    private void argumentsOfTests() {
        range("KIND", 0, 7, ARGUMENT, one -> new Cascadery().test(KIND, one, 0));
        range("CLASS", 0, 7, ARGUMENT, one -> new Cascadery().test(CLASS, one, 0));
        range("STATE", 0, 3, ARGUMENT, one -> new Cascadery().test(STATE, one, 0));
        range("PART", 0, 3, ARGUMENT, one -> new Cascadery().test(PART, one, 0));
        range("ATTRIBUTE", 0, 1, ARGUMENT, one -> new Cascadery().test(ATTRIBUTE, one, 0));
        range("the number of ATTRIBUTE 0", 0, 9, ARGUMENT, two -> new Cascadery().test(ATTRIBUTE, 0, two));
        range("the number of ATTRIBUTE 1", 0, 9, ARGUMENT, two -> new Cascadery().test(ATTRIBUTE, 1, two));
        range("a of NTH", -9, 9, ARGUMENT, one -> new Cascadery().test(NTH, one, 0));
        range("b of NTH", -9, 9, ARGUMENT, two -> new Cascadery().test(NTH, 0, two));
        range("HAS", BELOW, LATER, ARGUMENT, one -> {
            Cascadery x = new Cascadery();
            x.select();
            x.test(HAS, one, 0);
        });
    }

    /** "IndexOutOfBoundsException if there is no such selector" */
    private void innerSelectors() {
        for (int test : new int[] {NOT, IS}) {
            range("inside " + test, 0, 1, BOUNDS, selector -> {
                Cascadery x = new Cascadery();
                x.select();
                x.select();
                x.test(test, selector, LEAST);
            });
            check.bounds("without any", () -> new Cascadery().test(test, 0, 0));
        }
        range("inside HAS", 0, 1, BOUNDS, selector -> {
            Cascadery x = new Cascadery();
            x.select();
            x.select();
            x.test(HAS, LATER, selector);
        });
        check.bounds("HAS without any", () -> new Cascadery().test(HAS, BELOW, 0));
    }

    /** "what does not matter may be any number" */
    private void whatDoesNotMatter() {
        for (int any : new int[] {LEAST, -1, 0, 8, 10, MOST}) {
            Cascadery x = row(1);
            x.setClass(1, 1, true);
            x.setState(1, 1, true);
            x.setPart(1, 1);
            int one = selected(x, KIND, 1, any);
            check.due("KIND", x.allThat(one, NONE), set(1));
            check.due("CLASS", x.allThat(selected(x, CLASS, 1, any), NONE), set(1));
            check.due("STATE", x.allThat(selected(x, STATE, 1, any), NONE), set(1));
            check.due("NOT", x.allThat(selected(x, NOT, one, any), NONE), set(0));
            check.due("IS", x.allThat(selected(x, IS, one, any), NONE), set(1));
            x.shadow(1);
            check.due("HOST", x.allThat(selected(x, HOST, any, any), 1), set(1));
            x.make(1);
            x.putTop(2, 1, 0);
            x.setPart(2, 1);
            check.due("PART", x.allThat(selected(x, PART, 1, any), NONE), set(2));
        }
    }

    /** "If several exceptions apply, the one that is documented first is thrown." */
    private void firstThatApplies() {
        Cascadery x = new Cascadery();
        int host = selected(x, HOST, 0, 0);
        check.argument("a wrong combinator, no such selector", () -> x.test(HAS, 4, 9));
        check.argument("a wrong combinator, HOST", () -> x.test(HAS, -1, host));
        for (int i = 0; i < 4; i++) {
            x.test(KIND, 0, 0);
        }
        check.argument("a fifth, out of range", () -> x.test(KIND, -1, 0));
        check.argument("a fifth, HOST inside", () -> x.test(IS, host, 0));
        check.bounds("a fifth, no such selector", () -> x.test(IS, 1, 0));
        x.join(BELOW);
        x.test(PART, 0, 0);
        check.argument("a second PART, out of range", () -> x.test(PART, -1, 0));
        check.argument("join behind PART, out of range", () -> x.join(4));
        check.state("join behind PART", () -> x.join(3));
    }

    /** "combinator: BELOW, CHILD, NEXT or LATER" */
    private void combinatorNumbers() {
        range("join", BELOW, LATER, ARGUMENT, combinator -> new Cascadery().join(combinator));
    }

    /** "A selector that has HOST or PART cannot be in NOT, IS or HAS." */
    private void barredInside() {
        int[][] rows = {{HOST, 0, 0}, {PART, 0, 0}, {HOST, 0, 0, JOIN, BELOW, 0}, {JOIN, BELOW, 0, HOST, 0, 0},
            {KIND, 0, 0, KIND, 0, 0, KIND, 0, 0, PART, 0, 0}, {JOIN, 1, 0, JOIN, 1, 0, JOIN, 1, 0, PART, 3, 0}};
        for (int[] r : rows) {
            Cascadery x = new Cascadery();
            int inner = selected(x, r);
            check.argument("in NOT", () -> x.test(NOT, inner, 0));
            check.argument("in IS", () -> x.test(IS, inner, 0));
            for (int c = BELOW; c <= LATER; c++) {
                int combinator = c;
                check.argument("in HAS", () -> x.test(HAS, combinator, inner));
            }
            x.select();
            check.taken("another one", () -> x.test(NOT, 1, 0));
        }
    }

    /** "or the draft has PART, and test is PART" */
    private void onePart() {
        Cascadery x = new Cascadery();
        x.test(PART, 0, 0);
        check.state("the same", () -> x.test(PART, 0, 0));
        check.state("another one", () -> x.test(PART, 3, 0));
        check.due("other tests", x.test(KIND, 0, 0), 2);
        check.due("HOST, too", x.test(HOST, 0, 0), 3);
        check.state("still", () -> x.test(PART, 0, 0));
        check.due("the fourth", x.test(NTH, 0, 0), 4);
        check.state("full, and PART", () -> x.test(PART, 0, 0));
        check.state("full", () -> x.test(NTH, 0, 0));
    }

    /** "A selector may have PART in its last compound." */
    private void partGoesBehindAll() {
        for (int compounds = 1; compounds <= 4; compounds++) {
            Cascadery x = new Cascadery();
            for (int i = 1; i < compounds; i++) {
                x.join(CHILD);
            }
            check.due("PART", x.test(PART, 2, 0), 1);
            check.state("no compound behind " + compounds, () -> x.join(CHILD));
            check.due("it is one", x.select(), 0);
            check.due("the weight", x.weight(0), 1);
        }
    }

    /** "if it has that kind, class or state, or that number for that attribute" */
    private void featuresTested() {
        for (int i = 0; i <= 7; i++) {
            Cascadery x = row(2);
            x.setClass(1, i, true);
            x.setState(1, i / 2, true);
            x.setAttribute(1, i % 2, i + i % 2 * 2);
            for (int j = 0; j <= 7; j++) {
                check.due("class", x.allThat(selected(x, CLASS, j, 0), NONE), i == j ? set(1) : 0);
            }
            for (int j = 0; j <= 3; j++) {
                check.due("state", x.allThat(selected(x, STATE, j, 0), NONE), i / 2 == j ? set(1) : 0);
            }
            for (int j = 0; j <= 9; j++) {
                boolean is = j == i + i % 2 * 2;
                check.due("attribute", x.allThat(selected(x, ATTRIBUTE, i % 2, j), NONE), is ? set(1) : 0);
            }
            check.due("none is no number", x.allThat(selected(x, ATTRIBUTE, 1 - i % 2, 0), NONE), 0);
        }
    }

    /** What matches is found as the element is now, also when the same was asked right ahead of the change. */
    private void asOfNow() {
        Cascadery x = row(1);
        int[] tests = {selected(x, CLASS, 3, 0), selected(x, STATE, 3, 0), selected(x, ATTRIBUTE, 0, 3), selected(x, ATTRIBUTE, 1, 3)};
        for (int round = 0; round < 4; round++) {
            boolean is = round % 2 == 0;
            Check.Acting[] changes = {() -> x.setClass(1, 3, is), () -> x.setState(1, 3, is),
                () -> x.setAttribute(1, 0, is ? 3 : NONE), () -> x.setAttribute(1, 1, is ? 3 : 0)};
            for (int i = 0; i < changes.length; i++) {
                check.due("ahead of change " + i, x.allThat(tests[i], NONE), is ? 0 : set(1));
                changes[i].act();
                check.due("behind change " + i, x.allThat(tests[i], NONE), is ? set(1) : 0);
            }
        }
        x.shadow(1);
        x.make(1);
        int part = selected(x, PART, 0, 0);
        check.due("without tops", x.allThat(part, NONE), 0);
        x.putTop(2, 1, 0);
        check.due("without the part", x.allThat(part, NONE), 0);
        x.setPart(2, 0);
        check.due("with the part", x.allThat(part, NONE), set(2));
        x.take(2);
        check.due("taken out", x.allThat(part, NONE), 0);
    }

    /** One change of the top 2, by its number. */
    private static void change(Cascadery x, int number, boolean is) {
        switch (number) {
            case 0:
                x.setClass(2, 3, is);
                break;
            case 1:
                x.setState(2, 3, is);
                break;
            case 2:
                x.setAttribute(2, 0, is ? 3 : NONE);
                break;
            case 3:
                x.setAttribute(2, 1, is ? 3 : NONE);
                break;
            default:
                x.setPart(2, is ? 3 : NONE);
        }
    }

    /** Two changes, one to and one fro, with no question between them. */
    private void asOfTwoChanges() {
        int[][] tests = {{CLASS, 3, 0}, {STATE, 3, 0}, {ATTRIBUTE, 0, 3}, {ATTRIBUTE, 1, 3}, {PART, 3, 0}};
        for (int first = 0; first < 5; first++) {
            for (int second = 0; second < 5; second++) {
                Cascadery x = row(1);
                x.shadow(1);
                x.make(1);
                x.putTop(2, 1, 0);
                int one = selected(x, tests[first]);
                int two = selected(x, tests[second]);
                change(x, second, true);
                check.due("the second one", x.allThat(two, second == 4 ? NONE : 1), set(2));
                check.due("the first one", x.allThat(one, first == 4 ? NONE : 1), first == second ? set(2) : 0);
                change(x, first, true);
                change(x, second, false);
                check.due("the second one is gone", x.allThat(two, second == 4 ? NONE : 1), 0);
                check.due("the first one is there", x.allThat(one, first == 4 ? NONE : 1), first == second ? 0 : set(2));
            }
        }
    }

    /** Several selectors inside of one, which were not asked for themselves. */
    private void twoInside() {
        Cascadery x = row(3);
        int first = selected(x, NTH, 0, 1);
        int third = selected(x, NTH, 0, 3);
        int neither = selected(x, NOT, first, 0, NOT, third, 0);
        check.due("neither of two", x.allThat(neither, NONE), set(2));
        Cascadery y = row(3);
        first = selected(y, NTH, 0, 1);
        third = selected(y, NTH, 0, 3);
        int between = selected(y, HAS, NEXT, third, NOT, first, 0, JOIN, NEXT, 0, IS, third, 0);
        check.due("in two compounds", y.allThat(between, NONE), set(3));
    }

    /** "is a times some number from 0 on, plus b": all a and b, with twelve places */
    private void nth() {
        for (int a = -9; a <= 9; a++) {
            Cascadery x = row(12);
            for (int b = -9; b <= 9; b++) {
                int wanted = 0;
                for (int n = 0; n <= 30; n++) {
                    int place = a * n + b;
                    wanted |= place >= 1 && place <= 12 ? 1 << place : 0;
                    wanted |= place == 1 ? 1 : 0;
                }
                check.due("NTH " + a + " " + b, x.allThat(selected(x, NTH, a, b), NONE), wanted);
            }
        }
    }

    /** "its place among its siblings, from 1 on, 1 without siblings" */
    private void placeWithoutSiblings() {
        Cascadery x = chain(2);
        int first = selected(x, NTH, 0, 1);
        int none = selected(x, NTH, 0, 0);
        int second = selected(x, NTH, 0, 2);
        check.due("all", x.allThat(first, NONE), set(0, 1, 2));
        check.due("no place 0", x.allThat(none, NONE), 0);
        x.make(1);
        x.put(3, 1, 0);
        check.due("the second one", x.allThat(second, NONE), set(2));
        x.take(3);
        check.due("without it", x.allThat(first, NONE), set(0, 1, 2));
        x.shadow(1);
        x.putTop(3, 1, 0);
        check.due("a single top", x.allThat(first, 1), set(3));
        check.due("a child of the host is none of its siblings", x.allThat(first, NONE), set(0, 1, 2));
        int host = selected(x, HOST, 0, 0, NTH, 0, 1);
        check.due("the host", x.allThat(host, 1), set(1));
        x.take(1);
        check.due("the loose host", x.allThat(host, 1), set(1));
    }

    /** 0 has 1, 2 and 3; 2 has 5 and 4; 4 has 6; 5 has the tops 7 and 8; 8 has 9. */
    private static Cascadery forest() {
        Cascadery x = loose(9);
        x.put(1, 0, 0);
        x.put(2, 0, 1);
        x.put(3, 0, 2);
        x.put(4, 2, 0);
        x.put(5, 2, 0);
        x.put(6, 4, 0);
        x.shadow(5);
        x.putTop(7, 5, 0);
        x.putTop(8, 5, 1);
        x.put(9, 8, 0);
        return x;
    }

    private static final int[] PARENTS = {NONE, 0, 0, 0, 2, 2, 4, 5, 5, 8};
    private static final int[] PLACES = {1, 1, 2, 3, 2, 1, 1, 1, 2, 1};

    /** Whether a combinator leads from one element of the forest to another one. */
    private static boolean leads(int from, int combinator, int to) {
        boolean areSiblings = from != 0 && to != 0 && PARENTS[from] == PARENTS[to] && (from < 7) == (to < 7);
        switch (combinator) {
            case Cascadery.BELOW:
                int above = to;
                for (int i = 0; i < 9 && above != NONE && (above == to || above != from); i++) {
                    above = PARENTS[above];
                }
                return above == from;
            case Cascadery.CHILD:
                return PARENTS[to] == from;
            case Cascadery.NEXT:
                return areSiblings && PLACES[from] + 1 == PLACES[to];
            default:
                return areSiblings && PLACES[from] < PLACES[to];
        }
    }

    /** Each combinator, between all pairs of elements of a tree, in a row of compounds and in HAS. */
    private void checkReached(int first, int last, int host) {
        for (int marked = first; marked <= last; marked++) {
            Cascadery x = forest();
            x.setClass(marked, 0, true);
            int one = selected(x, CLASS, 0, 0);
            for (int combinator = BELOW; combinator <= LATER; combinator++) {
                int behind = 0;
                int ahead = 0;
                for (int e = first; e <= last; e++) {
                    behind |= leads(marked, combinator, e) ? 1 << e : 0;
                    ahead |= leads(e, combinator, marked) ? 1 << e : 0;
                }
                String what = "combinator " + combinator + " with " + marked;
                check.due(what, x.allThat(selected(x, CLASS, 0, 0, JOIN, combinator, 0), host), behind);
                check.due("HAS " + what, x.allThat(selected(x, HAS, combinator, one), host), ahead);
            }
        }
    }

    /** "with BELOW, one that it is below; with CHILD, its parent; with NEXT, ..."; HAS "below it, a child of it, ..." */
    private void reachedInDocument() {
        checkReached(0, 6, NONE);
    }

    /** "The host of a tree counts as the parent of its tops for combinators, also those of HAS." */
    private void reachedInShadow() {
        checkReached(7, 9, 5);
        for (int marked = 7; marked <= 9; marked++) {
            Cascadery x = forest();
            x.setClass(marked, 0, true);
            int one = selected(x, CLASS, 0, 0);
            for (int c = BELOW; c <= LATER; c++) {
                int host = selected(x, HOST, 0, 0, HAS, c, one);
                check.due("the host HAS " + c, x.allThat(host, 5), leads(5, c, marked) ? set(5) : 0);
            }
        }
        Cascadery x = forest();
        int[] wanted = {set(7, 8, 9), set(7, 8), 0, 0};
        for (int c = BELOW; c <= LATER; c++) {
            check.due("of the host " + c, x.allThat(selected(x, HOST, 0, 0, JOIN, c, 0), 5), wanted[c]);
        }
    }

    /** "A compound with the test HOST matches only the host of the tree in which is matched, if that matches the others" */
    private void hostOnly() {
        Cascadery x = forest();
        check.due("the document has none", x.allThat(selected(x, HOST, 0, 0), NONE), 0);
        check.due("the host", x.allThat(0, 5), set(5));
        check.due("its kind", x.allThat(selected(x, HOST, 0, 0, KIND, 1, 0), 5), set(5));
        check.due("another kind", x.allThat(selected(x, HOST, 0, 0, KIND, 2, 0), 5), 0);
        check.due("twice", x.allThat(selected(x, HOST, 0, 0, HOST, 0, 0), 5), set(5));
        check.due("its weight", x.weight(3), 200);
        x.take(5);
        check.due("a loose one", x.allThat(0, 5), set(5));
        x.shadow(7);
        check.due("the host of an empty tree", x.allThat(0, 7), set(7));
        check.due("not of the tree above", x.allThat(0, 5), set(5));
    }

    /** The host has siblings, and what is above it, but they are no elements of its tree. */
    private void hostBesideItsTree() {
        Cascadery x = forest();
        int all = selected(x);
        for (int c = BELOW; c <= LATER; c++) {
            check.due("behind combinator " + c, x.allThat(selected(x, JOIN, c, 0, HOST, 0, 0), 5), 0);
        }
        check.due("HAS NEXT", x.allThat(selected(x, HOST, 0, 0, HAS, NEXT, all), 5), 0);
        check.due("HAS LATER", x.allThat(selected(x, HOST, 0, 0, HAS, LATER, all), 5), 0);
        x.make(1);
        x.put(10, 5, 0);
        int second = selected(x, NTH, 0, 2);
        check.due("its children are none either", x.allThat(selected(x, HOST, 0, 0, HAS, CHILD, second), 5), set(5));
        x.take(8);
        x.take(7);
        check.due("HAS BELOW without tops", x.allThat(selected(x, HOST, 0, 0, HAS, BELOW, all), 5), 0);
        check.due("IS matches no host", x.allThat(selected(x, HOST, 0, 0, IS, all, 0), 5), 0);
        check.due("so NOT does", x.allThat(selected(x, HOST, 0, 0, NOT, all, 0), 5), set(5));
    }

    /** "another compound only elements of that tree" */
    private void onlyElementsOfTheTree() {
        Cascadery x = forest();
        int all = selected(x);
        for (int e = 0; e <= 9; e++) {
            check.due(e + " in the document's", x.matches(e, all, NONE), e <= 6);
            check.due(e + " in a shadow tree", x.matches(e, all, 5), e >= 7);
        }
        x.take(4);
        check.due("not what is loose", x.allThat(all, NONE), set(0, 1, 2, 3, 5));
        x.take(5);
        check.due("a tree out of the document", x.allThat(all, 5), set(7, 8, 9));
        check.due("not over the host", x.allThat(selected(x, JOIN, BELOW, 0, JOIN, BELOW, 0), 5), 0);
    }

    /** "It is matched by an element with that part, in the shadow tree of a host, if the host matches ... without PART." */
    private void parts() {
        Cascadery x = forest();
        x.shadow(9);
        x.make(1);
        x.putTop(10, 9, 0);
        for (int part = 0; part <= 3; part++) {
            for (int e = 0; e <= 10; e++) {
                x.setPart(e, part);
            }
            for (int asked = 0; asked <= 3; asked++) {
                int s = selected(x, PART, asked, 0);
                check.due("in the document", x.allThat(s, NONE), part == asked ? set(7, 8, 9) : 0);
                check.due("in a shadow tree", x.allThat(s, 5), part == asked ? set(10) : 0);
                check.due("not deeper", x.allThat(s, 9), 0);
            }
        }
        int second = selected(x, NTH, 0, 2, PART, 3, 0);
        check.due("the host is the first one", x.allThat(second, NONE), 0);
        int first = selected(x, NTH, 0, 1, PART, 3, 0);
        check.due("the element need not be", x.allThat(first, NONE), set(7, 8, 9));
        x.setPart(8, NONE);
        check.due("without a part", x.allThat(first, NONE), set(7, 9));
        check.due("of a host of the tree itself", x.allThat(selected(x, HOST, 0, 0, PART, 3, 0), 5), set(7, 9));
    }

    /** Four compounds, each combinator at each place. */
    private void manyCompounds() {
        Cascadery x = chain(6);
        check.due("three levels", x.allThat(selected(x, JOIN, CHILD, 0, JOIN, CHILD, 0, JOIN, CHILD, 0), NONE), span(3, 6));
        check.due("at least three", x.allThat(selected(x, KIND, 0, 0, JOIN, 0, 0, JOIN, 0, 0, JOIN, 0, 0), NONE), span(3, 6));
        check.due("one and more", x.allThat(selected(x, KIND, 0, 0, JOIN, 1, 0, JOIN, 0, 0, JOIN, 1, 0), NONE), span(3, 6));
        check.due("just three", x.allThat(selected(x, KIND, 0, 0, JOIN, 1, 0, JOIN, 1, 0, JOIN, 1, 0), NONE), set(3));
        Cascadery y = row(6);
        check.due("the first is ahead", y.allThat(selected(y, NTH, 0, 1, JOIN, 2, 0, JOIN, 2, 0, JOIN, 2, 0), NONE), set(4));
        check.due("far ahead", y.allThat(selected(y, NTH, 0, 1, JOIN, 3, 0, JOIN, 3, 0, JOIN, 3, 0), NONE), span(4, 6));
        check.due("way back", y.allThat(selected(y, NTH, 0, 2, JOIN, 2, 0, JOIN, 3, 0, JOIN, 2, 0), NONE), span(5, 6));
    }

    /** Selectors inside selectors, as deep as there may be. */
    private void deepInside() {
        Cascadery x = chain(29);
        x.setClass(29, 0, true);
        selected(x, CLASS, 0, 0);
        for (int s = 1; s <= 29; s++) {
            selected(x, HAS, CHILD, s - 1);
            check.due("one level up", x.allThat(s, NONE), 1 << 29 - s);
        }
        check.due("the weight is that of the innermost", x.weight(29), 100);
        Cascadery y = row(1);
        selected(y, KIND, 1, 0);
        for (int s = 1; s <= 29; s++) {
            selected(y, NOT, s - 1, 0);
            check.due("NOT of NOT", y.allThat(s, NONE), s % 2 == 0 ? set(1) : set(0));
        }
    }

    /** "100 for each CLASS, STATE, ATTRIBUTE, NTH and HOST, 1 for each KIND and PART, and ... for each NOT, IS and HAS" */
    private void weights() {
        int[][] rows = {{KIND, 7, 0, 1}, {CLASS, 7, 0, 100}, {STATE, 3, 0, 100}, {ATTRIBUTE, 1, 9, 100}, {NTH, 9, 9, 100},
            {HOST, 0, 0, 100}, {PART, 3, 0, 1}, {NOT, 0, 0, 201}, {IS, 0, 0, 201}, {HAS, LATER, 0, 201}};
        for (int[] r : rows) {
            Cascadery x = new Cascadery();
            selected(x, KIND, 0, 0, CLASS, 0, 0, STATE, 0, 0);
            check.due("of " + r[0], x.weight(selected(x, r[0], r[1], r[2])), r[3]);
            check.due("in another compound", x.weight(selected(x, CLASS, 1, 0, JOIN, 2, 0, JOIN, 0, 0, r[0], r[1], r[2])),
                    100 + r[3]);
        }
        Cascadery x = new Cascadery();
        int empty = selected(x);
        check.due("of an empty one inside", x.weight(selected(x, NOT, empty, 0)), 0);
    }

    /** A selector that all elements of the kind 0 match, of a weight from 1 on. */
    private static int weighing(Cascadery x, int weight) {
        int times = weight <= 4 ? 0 : weight % 4 == 0 ? 4 : weight % 3 <= 1 ? 3 : 2;
        int rest = times == 0 ? weight : weight % times;
        int inner = times == 0 ? 0 : weighing(x, weight / times);
        for (int i = 0; i < times; i++) {
            x.test(IS, inner, 0);
        }
        for (int i = 0; i < rest; i++) {
            x.test(KIND, 0, 0);
        }
        return x.select();
    }

    /** "together, as an int" */
    private void wrappedWeights() {
        Cascadery x = new Cascadery();
        int most = weighing(x, MOST);
        check.due("the greatest weight", x.weight(most), MOST);
        check.due("one more", x.weight(selected(x, IS, most, 0, KIND, 0, 0)), LEAST);
        check.due("100 more", x.weight(selected(x, NOT, most, 0, NTH, 1, 1)), LEAST + 99);
        check.due("twice", x.weight(selected(x, IS, most, 0, HAS, BELOW, most)), -2);
        check.due("twice and 1", x.weight(selected(x, IS, most, 0, IS, most, 0, KIND, 0, 0)), -1);
        check.due("twice and 2", x.weight(selected(x, IS, most, 0, NOT, most, 0, KIND, 0, 0, KIND, 0, 0)), 0);
        check.due("twice and 3", x.weight(selected(x, IS, most, 0, IS, most, 0, JOIN, 0, 0, KIND, 0, 0, KIND, 0, 0, KIND, 0, 0)), 1);
        check.due("it matches", x.allThat(most, NONE), 1);
    }

    /** "the greater weight of the selector", as an int, too */
    private void wrappedPrecedence() {
        Cascadery x = new Cascadery();
        int most = weighing(x, MOST);
        int least = selected(x, IS, most, 0, KIND, 0, 0);
        int minus = selected(x, IS, most, 0, IS, most, 0, KIND, 0, 0);
        int empty = selected(x);
        int one = selected(x, KIND, 0, 0);
        x.sheet(AUTHOR, NONE, NONE);
        int[] order = {least, minus, empty, one, most};
        for (int i = order.length - 1; i >= 0; i--) {
            int rule = x.rule(0, order[i]);
            x.declare(rule, TINT, PLAIN, 10 + i, false);
        }
        check.due("the greatest", x.value(0, TINT), 14);
        for (int i = order.length - 1; i > 0; i--) {
            check.due("goes ahead", x.value(0, TINT), 10 + i);
            check.due("by the weight", x.why(0, TINT, order.length - i), 5);
            x.undeclare(order.length - 1 - i, TINT);
        }
        check.due("the least", x.value(0, TINT), 10);
    }

    /** "IndexOutOfBoundsException if there is no such element, selector or shadow tree" */
    private void askedNumbers() {
        range("weight", 0, 1, BOUNDS, s -> twoSelectors().weight(s));
        range("matches of", 0, 2, BOUNDS, e -> twoSelectors().matches(e, 0, NONE));
        range("matches selector", 0, 1, BOUNDS, s -> twoSelectors().matches(0, s, NONE));
        range("matches in", NONE, 0, BOUNDS, host -> twoSelectors().matches(0, 0, host));
        range("allThat", 0, 1, BOUNDS, s -> twoSelectors().allThat(s, NONE));
        range("allThat in", NONE, 0, BOUNDS, host -> twoSelectors().allThat(0, host));
        Cascadery x = twoSelectors();
        check.bounds("matches in what has no shadow tree", () -> x.matches(0, 0, 2));
        check.bounds("allThat in what has no shadow tree", () -> x.allThat(0, 2));
    }

    /** Two selectors, two children of 0, and an empty shadow tree of 0. */
    private static Cascadery twoSelectors() {
        Cascadery x = row(2);
        x.shadow(0);
        x.select();
        x.select();
        return x;
    }
}
