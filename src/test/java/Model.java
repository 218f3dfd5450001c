import java.util.ArrayList;
import java.util.Arrays;
import java.util.Comparator;
import java.util.HashMap;
import java.util.HashSet;
import java.util.LinkedHashSet;
import java.util.List;
import java.util.Map;
import java.util.Set;

/**
 * The document written a second time, straight from its definitions, without regard for speed: what RandomRunsTest
 * compares Cascadery with. Arguments must be right, but for what makes a call throw IllegalStateException.
 */
final class Model {
    static final int NONE = -1;
    static final int VAR = 11;

    static final class Node {
        int id;
        int kind;
        Set<Integer> classes = new HashSet<>();
        Set<Integer> states = new HashSet<>();
        int[] attributes = {NONE, NONE};
        int part = NONE;
        Node parent;
        Node host;
        List<Node> children = new ArrayList<>();
        List<Node> tops;
        Map<Integer, Declared> own = new HashMap<>();
        Kept kept;
    }

    record Declared(int unit, int number, int variable, boolean important) { }

    static final class Kept {
        /** For each property {unit, number}: the unit is 0 but for variables; null is AUTO, or invalid. */
        int[][] values = new int[15][];
        boolean[] important = new boolean[15];
        int size;
        int[][] transitions = new int[5][];
        int playStart;
        Set<Integer> changed = new HashSet<>();
    }

    record Test(int kind, int one, int two) { }

    static final class Compound {
        int combinator;
        List<Test> tests = new ArrayList<>();

        boolean has(int kind) {
            return tests.stream().anyMatch(t -> t.kind == kind);
        }
    }

    record Sheet(int id, int origin, Node host, int layer, boolean[] on) { }

    static final class Rule {
        int id;
        Sheet sheet;
        int selector;
        int condition = NONE;
        int number;
        Map<Integer, Declared> declared = new HashMap<>();
    }

    /** A declaration that applies; the rule is null for one of the element itself. */
    record Candidate(Rule rule, Declared declared, Node node) {
        int origin() {
            return rule == null ? 2 : rule.sheet.origin;
        }
    }

    static final class Move {
        int length = 10;
        int rounds = 1;
        boolean turns;
        Map<Integer, Map<Integer, Integer>> frames = new HashMap<>();
    }

    final List<Node> nodes = new ArrayList<>();
    final List<List<Compound>> selectors = new ArrayList<>();
    List<Compound> draft = new ArrayList<>(List.of(new Compound()));
    final List<Sheet> sheets = new ArrayList<>();
    final List<Rule> rules = new ArrayList<>();
    final Move[] moves = {new Move(), new Move(), new Move(), new Move()};
    final List<int[]> listeners = new ArrayList<>();
    Set<Node> marks = new HashSet<>();
    int width = 1000;
    int now;
    int flushes;
    int restyled;
    int shared;
    private final Map<List<Object>, Boolean> known = new HashMap<>();

    Model() {
        make(0);
    }

    private static void must(boolean is) {
        if (!is) {
            throw new IllegalStateException();
        }
    }

    // ---- trees

    int make(int kind) {
        must(nodes.size() < 30);
        Node n = new Node();
        n.id = nodes.size();
        n.kind = kind;
        nodes.add(n);
        return n.id;
    }

    void shadow(int element) {
        Node n = nodes.get(element);
        must(n.tops == null);
        n.tops = new ArrayList<>();
        marks.addAll(inDocument());
    }

    private List<Node> siblings(Node n) {
        return n.parent != null ? n.parent.children : n.host != null ? n.host.tops : List.of(n);
    }

    private Node up(Node n) {
        return n.parent != null ? n.parent : n.host;
    }

    private boolean isUnder(Node n, Node above) {
        return n != null && (n == above || isUnder(up(n), above));
    }

    void put(int element, int parent, int place) {
        Node n = nodes.get(element);
        Node p = nodes.get(parent);
        must(element != 0 && up(n) == null && !isUnder(p, n));
        p.children.add(place, n);
        n.parent = p;
        markMove(n, siblings(n).subList(place + 1, siblings(n).size()), p, treeHost(n));
    }

    void putTop(int element, int host, int place) {
        Node n = nodes.get(element);
        Node h = nodes.get(host);
        must(element != 0 && up(n) == null && !isUnder(h, n));
        h.tops.add(place, n);
        n.host = h;
        markMove(n, siblings(n).subList(place + 1, siblings(n).size()), null, h);
    }

    int take(int element) {
        Node n = nodes.get(element);
        must(up(n) != null);
        Node parent = n.parent;
        Node tree = treeHost(n);
        int from = parent != null ? parent.id : 100 + n.host.id;
        List<Node> row = siblings(n);
        int place = row.indexOf(n);
        row.remove(place);
        n.parent = null;
        n.host = null;
        Set<Node> there = inDocument();
        for (Node each : nodes) {
            if (!there.contains(each)) {
                each.kept = null;
            }
        }
        markMove(n, row.subList(place, row.size()), parent, tree);
        return from;
    }

    private void markMove(Node n, List<Node> behind, Node parent, Node tree) {
        Set<Node> set = new HashSet<>(shownBelow(n));
        set.add(n);
        if (anyRule(s -> mentions(s, Set.of(4), true))) {
            for (Node sibling : behind) {
                set.add(sibling);
                set.addAll(shownBelow(sibling));
            }
        }
        if (anyRule(s -> mentions(s, Set.of(7), false))) {
            set.addAll(nodes);
        }
        if (parent != null && parent.tops != null) {
            set.addAll(shownBelow(parent));
        }
        if (tree != null) {
            set.addAll(shownBelow(tree));
        }
        mark(set);
    }

    private void mark(Set<Node> set) {
        set.retainAll(inDocument());
        marks.addAll(set);
    }

    boolean setClass(int element, int name, boolean is) {
        Node n = nodes.get(element);
        boolean had = n.classes.contains(name);
        if (is) {
            n.classes.add(name);
        } else {
            n.classes.remove(name);
        }
        markFeature(n, 1, name);
        return had;
    }

    boolean setState(int element, int state, boolean is) {
        Node n = nodes.get(element);
        boolean had = n.states.contains(state);
        if (is) {
            n.states.add(state);
        } else {
            n.states.remove(state);
        }
        markFeature(n, 2, state);
        return had;
    }

    int setAttribute(int element, int attribute, int number) {
        Node n = nodes.get(element);
        int before = n.attributes[attribute];
        n.attributes[attribute] = number;
        markFeature(n, 3, attribute);
        if (attribute == 1) {
            if (n.parent != null && n.parent.tops != null) {
                mark(shownBelow(n.parent));
            }
            if (treeHost(n) != null) {
                mark(shownBelow(treeHost(n)));
            }
        }
        return before;
    }

    int setPart(int element, int part) {
        int before = nodes.get(element).part;
        nodes.get(element).part = part;
        mark(new HashSet<>(Set.of(nodes.get(element))));
        return before;
    }

    /** The top of the tree of an element. */
    private Node root(Node n) {
        return n.parent == null ? n : root(n.parent);
    }

    private Node treeHost(Node n) {
        return root(n).host;
    }

    private boolean isIn(Node n) {
        Node top = root(n);
        return top.id == 0 || top.host != null && isIn(top.host);
    }

    boolean isIn(int element) {
        return isIn(nodes.get(element));
    }

    private Set<Node> inDocument() {
        Set<Node> set = new LinkedHashSet<>();
        nodes.stream().filter(this::isIn).forEach(set::add);
        return set;
    }

    private void addInOrder(List<Node> list, Node n) {
        list.add(n);
        n.children.forEach(c -> addInOrder(list, c));
    }

    private Node shownParent(Node n) {
        if (n.parent == null || n.parent.tops == null) {
            return up(n);
        }
        List<Node> tree = new ArrayList<>();
        n.parent.tops.forEach(t -> addInOrder(tree, t));
        for (Node x : tree) {
            if (x.kind == 7 && x.attributes[1] == n.attributes[1]) {
                return x;
            }
        }
        return n.parent;
    }

    int shownParent(int element) {
        Node p = shownParent(nodes.get(element));
        return p == null ? NONE : p.id;
    }

    private List<Node> shownChildren(Node n) {
        List<Node> list = new ArrayList<>();
        Node h = treeHost(n);
        if (h != null) {
            h.children.stream().filter(c -> shownParent(c) == n).forEach(list::add);
        }
        if (n.tops != null) {
            list.addAll(n.tops);
        }
        n.children.stream().filter(c -> shownParent(c) == n).forEach(list::add);
        return list;
    }

    private Set<Node> shownBelow(Node n) {
        Set<Node> set = new HashSet<>();
        for (Node c : shownChildren(n)) {
            set.add(c);
            set.addAll(shownBelow(c));
        }
        return set;
    }

    // ---- selectors

    private boolean draftHas(int kind) {
        return draft.stream().anyMatch(c -> c.has(kind));
    }

    boolean isInnerBarred(int selector) {
        return selectors.get(selector).stream().anyMatch(c -> c.has(8) || c.has(9));
    }

    int test(int test, int one, int two) {
        Compound last = draft.get(draft.size() - 1);
        must(last.tests.size() < 4 && !(test == 9 && draftHas(9)));
        last.tests.add(new Test(test, one, two));
        return last.tests.size();
    }

    int join(int combinator) {
        must(draft.size() < 4 && !draftHas(9));
        Compound c = new Compound();
        c.combinator = combinator;
        draft.add(c);
        return draft.size();
    }

    int select() {
        must(selectors.size() < 30);
        selectors.add(draft);
        draft = new ArrayList<>(List.of(new Compound()));
        return selectors.size() - 1;
    }

    int weight(int selector) {
        int sum = 0;
        for (Compound c : selectors.get(selector)) {
            for (Test t : c.tests) {
                sum += switch (t.kind) {
                    case 0, 9 -> 1;
                    case 5, 6 -> weight(t.one);
                    case 7 -> weight(t.two);
                    default -> 100;
                };
            }
        }
        return sum;
    }

    private Node treeParent(Node n) {
        return n.parent != null ? n.parent : n.host;
    }

    /** Whether one is reached from the other by the combinator. */
    private boolean isReached(Node n, int combinator, Node from, Node host) {
        switch (combinator) {
            case 0:
                return n != host && treeParent(n) != null
                        && (treeParent(n) == from || isReached(treeParent(n), 0, from, host));
            case 1:
                return n != host && treeParent(n) == from;
            case 2:
                return siblings(n).contains(from) && siblings(n).indexOf(from) == siblings(n).indexOf(n) - 1;
            default:
                return siblings(n).contains(from) && siblings(n).indexOf(from) < siblings(n).indexOf(n);
        }
    }

    private boolean isInTree(Node n, Node host) {
        return host == null ? root(n).id == 0 : treeHost(n) == host;
    }

    private boolean passes(Node n, Test t, Node host) {
        switch (t.kind) {
            case 0:
                return n.kind == t.one;
            case 1:
                return n.classes.contains(t.one);
            case 2:
                return n.states.contains(t.one);
            case 3:
                return n.attributes[t.one] == t.two;
            case 4:
                int place = siblings(n).indexOf(n) + 1;
                for (int i = 0; i < 100; i++) {
                    if (t.one * i + t.two == place) {
                        return true;
                    }
                }
                return false;
            case 5:
                return !fits(n, t.one, host);
            case 6:
                return fits(n, t.one, host);
            case 7:
                return nodes.stream().anyMatch(x -> fits(x, t.two, host) && isReached(x, t.one, n, host));
            default:
                return true;
        }
    }

    private boolean fitsUpTo(Node n, List<Compound> row, int last, Node host) {
        Compound c = row.get(last);
        boolean isThere = c.has(8) ? host != null && n == host : isInTree(n, host);
        if (!isThere || !c.tests.stream().allMatch(t -> passes(n, t, host))) {
            return false;
        }
        return last == 0 || nodes.stream().anyMatch(x -> isReached(n, c.combinator, x, host)
                && fitsUpTo(x, row, last - 1, host));
    }

    private boolean fits(Node n, int selector, Node host) {
        List<Object> key = Arrays.asList(n, selector, host);
        Boolean before = known.get(key);
        if (before == null) {
            List<Compound> row = selectors.get(selector);
            int last = row.size() - 1;
            int part = row.get(last).tests.stream().filter(t -> t.kind == 9).mapToInt(Test::one).findFirst().orElse(NONE);
            before = part == NONE ? fitsUpTo(n, row, last, host)
                    : n.part == part && treeHost(n) != null && fitsUpTo(treeHost(n), row, last, host);
            known.put(key, before);
        }
        return before;
    }

    private boolean asksFits(Node n, int selector, Node host) {
        known.clear();
        return fits(n, selector, host);
    }

    boolean matches(int element, int selector, int host) {
        return asksFits(nodes.get(element), selector, host == NONE ? null : nodes.get(host));
    }

    int allThat(int selector, int host) {
        int set = 0;
        for (int i = 0; i < nodes.size(); i++) {
            set |= matches(i, selector, host) ? 1 << i : 0;
        }
        return set;
    }

    private interface Asked {
        boolean is(int selector);
    }

    private boolean anyRule(Asked asked) {
        return rules.stream().anyMatch(r -> asked.is(r.selector));
    }

    private static int inner(Test t) {
        return t.kind == 5 || t.kind == 6 ? t.one : t.kind == 7 ? t.two : NONE;
    }

    /** Whether a test of these kinds, or NEXT or LATER if asked, is anywhere in a selector. */
    private boolean mentions(int selector, Set<Integer> kinds, boolean order) {
        return selectors.get(selector).stream().anyMatch(c -> order && c.combinator >= 2 || c.tests.stream().anyMatch(
                t -> kinds.contains(t.kind) || inner(t) != NONE && mentions(inner(t), kinds, order)));
    }

    private boolean isAnywhere(int selector, int kind, int name) {
        return selectors.get(selector).stream().anyMatch(c -> isAnywhere(c, kind, name));
    }

    private boolean isAnywhere(Compound c, int kind, int name) {
        return c.tests.stream().anyMatch(t -> t.kind == kind && t.one == name
                || inner(t) != NONE && isAnywhere(inner(t), kind, name));
    }

    private boolean isNear(int selector, int kind, int name) {
        List<Compound> row = selectors.get(selector);
        return row.get(row.size() - 1).tests.stream().anyMatch(t -> t.kind == kind && t.one == name
                || (t.kind == 5 || t.kind == 6) && selectors.get(t.one).size() == 1 && isNear(t.one, kind, name));
    }

    private boolean isFar(int selector, int kind, int name) {
        List<Compound> row = selectors.get(selector);
        if (row.stream().anyMatch(c -> c.has(8) || c.has(9))) {
            return isAnywhere(selector, kind, name);
        }
        for (int i = 0; i < row.size() - 1; i++) {
            if (isAnywhere(row.get(i), kind, name)) {
                return true;
            }
        }
        for (Test t : row.get(row.size() - 1).tests) {
            if (t.kind == 7 && isAnywhere(t.two, kind, name)) {
                return true;
            }
            if (t.kind == 5 || t.kind == 6) {
                boolean isRow = selectors.get(t.one).size() > 1;
                if (isRow ? isAnywhere(t.one, kind, name) : isFar(t.one, kind, name)) {
                    return true;
                }
            }
        }
        return false;
    }

    private void markFeature(Node n, int kind, int name) {
        if (!isIn(n)) {
            return;
        }
        if (anyRule(s -> isNear(s, kind, name))) {
            marks.add(n);
        }
        if (anyRule(s -> isFar(s, kind, name))) {
            Node host = treeHost(n);
            for (Node x : inDocument()) {
                if (isInTree(x, host) || x == host || treeHost(x) != null && isInTree(treeHost(x), host)) {
                    marks.add(x);
                }
            }
        }
    }

    // ---- sheets and rules

    private Node nodeOrNull(int element) {
        return element == NONE ? null : nodes.get(element);
    }

    int sheet(int origin, int host, int layer) {
        must(sheets.size() < 8);
        sheets.add(new Sheet(sheets.size(), origin, nodeOrNull(host), layer, new boolean[] {true}));
        marks.addAll(inDocument());
        return sheets.size() - 1;
    }

    boolean turn(int sheet, boolean is) {
        boolean was = sheets.get(sheet).on[0];
        sheets.get(sheet).on[0] = is;
        marks.addAll(inDocument());
        return was;
    }

    int rule(int sheet, int selector) {
        must(rules.size() < 40);
        Rule r = new Rule();
        r.id = rules.size();
        r.sheet = sheets.get(sheet);
        r.selector = selector;
        rules.add(r);
        marks.addAll(inDocument());
        return r.id;
    }

    void when(int rule, int condition, int number) {
        rules.get(rule).condition = condition;
        rules.get(rule).number = number;
        marks.addAll(inDocument());
    }

    private Map<Integer, Declared> block(int rule) {
        return rule < 100 ? rules.get(rule).declared : nodes.get(rule - 100).own;
    }

    private int[] both(int property) {
        return property == 15 ? new int[] {3, 4} : new int[] {property};
    }

    private int declaredThere(int rule) {
        if (rule < 100) {
            marks.addAll(inDocument());
        } else {
            mark(new HashSet<>(Set.of(nodes.get(rule - 100))));
        }
        return block(rule).size();
    }

    int declare(int rule, int property, int unit, int number, boolean important) {
        for (int p : both(property)) {
            block(rule).put(p, new Declared(unit, number, NONE, important));
        }
        return declaredThere(rule);
    }

    int declareVar(int rule, int property, int variable, int unit, int number, boolean important) {
        for (int p : both(property)) {
            // a negative unit tells that the rest is a second value
            block(rule).put(p, new Declared(-2 - unit, number, variable, important));
        }
        return declaredThere(rule);
    }

    int undeclare(int rule, int property) {
        for (int p : both(property)) {
            block(rule).remove(p);
        }
        return declaredThere(rule);
    }

    int setWidth(int width) {
        int before = this.width;
        this.width = width;
        marks.addAll(inDocument());
        return before;
    }

    private int depth(Node host) {
        return host == null ? 0 : 1 + depth(treeHost(host));
    }

    /** 10 to 7 as why() tells them, or 0. */
    private int barrier(Rule r, Node n, Integer held) {
        if (!r.sheet.on[0]) {
            return 10;
        }
        if (r.sheet.host != null && !isIn(r.sheet.host)) {
            return 9;
        }
        if (!fits(n, r.selector, r.sheet.host)) {
            return 8;
        }
        boolean holds = switch (r.condition) {
            case 0 -> width >= r.number;
            case 1 -> width <= r.number;
            case 2 -> held != null && held >= r.number;
            case 3 -> held != null && held <= r.number;
            case 4 -> r.number >= 0 && r.number <= 14;
            default -> true;
        };
        return holds ? 0 : 7;
    }

    private List<int[]> criteria(Candidate c) {
        boolean important = c.declared.important;
        int sign = important ? -1 : 1;
        int rank = important ? 5 - c.origin() : c.origin();
        int depth = c.rule == null ? depth(treeHost(c.node)) : depth(c.rule.sheet.host);
        List<int[]> list = new ArrayList<>(List.of(new int[] {rank}, new int[] {-sign * depth},
                new int[] {c.rule == null ? 1 : 0}));
        if (c.rule != null) {
            list.add(new int[] {sign * (c.rule.sheet.layer == NONE ? 9 : c.rule.sheet.layer)});
            list.add(new int[] {weight(c.rule.selector)});
            list.add(new int[] {c.rule.sheet.id * 100 + c.rule.id});
        }
        return list;
    }

    /** 1 to 6 if the first goes ahead by that, -1 to -6 if the second does, 0 if they are the same. */
    private int compare(Candidate a, Candidate b) {
        List<int[]> one = criteria(a);
        List<int[]> two = criteria(b);
        for (int i = 0; i < Math.min(one.size(), two.size()); i++) {
            int c = Integer.compare(one.get(i)[0], two.get(i)[0]);
            if (c != 0) {
                return c * (i + 1);
            }
        }
        return 0;
    }

    private List<Candidate> candidates(Node n, int p, Integer held) {
        List<Candidate> list = new ArrayList<>();
        if (n.own.containsKey(p)) {
            list.add(new Candidate(null, n.own.get(p), n));
        }
        for (Rule r : rules) {
            if (r.declared.containsKey(p) && barrier(r, n, held) == 0) {
                list.add(new Candidate(r, r.declared.get(p), n));
            }
        }
        list.sort(((Comparator<Candidate>) this::compare).reversed());
        return list;
    }

    private Declared source(Node n, int p, Integer held) {
        List<Candidate> list = candidates(n, p, held);
        while (!list.isEmpty() && list.get(0).declared.unit == 10) {
            int origin = list.get(0).origin();
            list.removeIf(c -> c.origin() >= origin);
        }
        return list.isEmpty() ? null : list.get(0).declared;
    }

    // ---- values

    private static boolean isSuited(int p, int unit) {
        return switch (unit) {
            case 0 -> p < 1 || p > 4;
            case 1, 2, 3, 5 -> p >= 1 && p <= 4;
            case 4 -> p == 1 || p == 2;
            case 6 -> p == 2;
            default -> true;
        };
    }

    private static int[] initial(int p) {
        return switch (p) {
            case 1 -> new int[] {0, 16};
            case 2 -> null;
            case 5 -> new int[] {0, 1};
            case 8, 11 -> new int[] {0, -1};
            default -> p >= 12 ? null : new int[] {0, 0};
        };
    }

    private static int[] part(int hundredths, long of) {
        return new int[] {0, (int) Math.max(-100000, Math.min(100000, hundredths * of / 100))};
    }

    /** Finds values; above is null for element 0, held is the size of the holder, null without one. */
    private Kept find(Node n, Kept above, Kept top, Integer held) {
        Kept k = new Kept();
        Declared[] sources = new Declared[15];
        for (int p = 0; p < 15; p++) {
            sources[p] = source(n, p, held);
            k.important[p] = sources[p] != null && sources[p].important;
        }
        for (int v = 12; v < 15; v++) {
            k.values[v] = variable(v, sources, above);
        }
        k.values[1] = plainValue(1, sources[1], k, above, top, held);
        for (int p = 0; p < 12; p++) {
            k.values[p] = p == 1 ? k.values[p] : plainValue(p, sources[p], k, above, top, held);
        }
        return k;
    }

    private boolean needs(int v, int wanted, Declared[] sources, int steps) {
        if (steps == 0 || sources[v] == null || sources[v].variable == NONE) {
            return false;
        }
        return sources[v].variable == wanted || needs(sources[v].variable, wanted, sources, steps - 1);
    }

    private int[] variable(int v, Declared[] sources, Kept above) {
        if (needs(v, v, sources, 5)) {
            return null;
        }
        Declared d = sources[v];
        if (d == null || d.unit == 8 || d.unit == 9) {
            return above == null ? null : above.values[v];
        }
        if (d.unit == 7) {
            return null;
        }
        if (d.variable == NONE) {
            return new int[] {d.unit, d.unit == 6 ? 0 : d.number};
        }
        int[] first = variable(d.variable, sources, above);
        int second = -2 - d.unit;
        return first != null ? first : second == NONE ? null : new int[] {second, second == 6 ? 0 : d.number};
    }

    private int[] plainValue(int p, Declared d, Kept k, Kept above, Kept top, Integer held) {
        int unit = d == null ? 9 : d.unit;
        int number = d == null ? 0 : d.number;
        if (d != null && d.variable != NONE) {
            int[] taken = k.values[d.variable];
            unit = taken != null ? taken[0] : -2 - d.unit;
            number = taken != null ? taken[1] : d.number;
            unit = unit == NONE || !isSuited(p, unit) ? 9 : unit;
        }
        int sizeAbove = above == null ? 16 : above.values[1][1];
        switch (unit) {
            case 0:
            case 1:
                return new int[] {0, number};
            case 2:
                return part(number, p == 1 ? sizeAbove : k.values[1][1]);
            case 3:
                return part(number, above != null ? top.values[1][1] : p == 1 ? 16 : k.values[1][1]);
            case 4:
                if (p == 1) {
                    return part(number, sizeAbove);
                }
                return above == null ? part(number, width) : above.values[2] == null ? null : part(number, above.values[2][1]);
            case 5:
                return part(number, held == null ? width : held);
            case 6:
                return null;
            case 8:
                return above == null ? initial(p) : above.values[p];
            case 9:
                return above != null && p <= 1 ? above.values[p] : initial(p);
            default:
                return initial(p);
        }
    }

    private int sizeOf(Node n, Kept k, Kept top) {
        if (k.values[2] != null) {
            return k.values[2][1];
        }
        int sum = 0;
        for (Node c : shownChildren(n)) {
            Kept free = find(c, k, top, null);
            sum += (free.values[2] == null ? 0 : free.values[2][1]) + 2 * free.values[3][1];
        }
        return sum;
    }

    private Integer heldSize(Node n, Map<Node, Kept> all) {
        for (Node x = shownParent(n); x != null; x = shownParent(x)) {
            if (all.get(x).values[6][1] > 0) {
                return all.get(x).size;
            }
        }
        return null;
    }

    private void findAll(Node n, Map<Node, Kept> all) {
        Node p = shownParent(n);
        Kept k = find(n, p == null ? null : all.get(p), all.get(nodes.get(0)), heldSize(n, all));
        all.put(n, k);
        k.size = k.values[6][1] > 0 ? sizeOf(n, k, all.get(nodes.get(0))) : 0;
        shownChildren(n).forEach(c -> findAll(c, all));
    }

    private static int told(int[] value, int p) {
        return value == null ? p >= 12 ? -1000001 : -1000000 : 100000 * value[0] + value[1];
    }

    int valueAnew(int element, int property) {
        must(isIn(element));
        known.clear();
        Map<Node, Kept> all = new HashMap<>();
        findAll(nodes.get(0), all);
        return told(all.get(nodes.get(element)).values[property], property);
    }

    // ---- flushes

    private boolean isMarked() {
        return inDocument().stream().anyMatch(marks::contains);
    }

    private void read(int element) {
        must(isIn(element));
        if (isMarked() || inDocument().stream().anyMatch(n -> n.kept == null)) {
            int times = 0;
            do {
                flush();
                times++;
            } while (times < 4 && isMarked());
        }
        known.clear();
    }

    private void addShown(List<Node> list, Node n) {
        list.add(n);
        shownChildren(n).forEach(c -> addShown(list, c));
    }

    private void flush() {
        known.clear();
        flushes++;
        List<Node> order = new ArrayList<>();
        addShown(order, nodes.get(0));
        Set<Node> done = new HashSet<>();
        Set<Node> changed = new HashSet<>();
        Map<Node, Kept> all = new HashMap<>();
        order.forEach(n -> all.put(n, n.kept));
        for (Node n : order) {
            boolean isBelow = false;
            for (Node x = shownParent(n); x != null; x = shownParent(x)) {
                isBelow |= changed.contains(x);
            }
            if (n.kept != null) {
                n.kept.changed.clear();
            }
            if (isBelow || marks.contains(n) || n.kept == null) {
                restyled++;
                shared += isShared(n, done) ? 1 : 0;
                done.add(n);
                Node p = shownParent(n);
                Kept k = find(n, p == null ? null : all.get(p), all.get(nodes.get(0)), heldSize(n, all));
                if (carryOver(n.kept, k)) {
                    changed.add(n);
                }
                n.kept = k;
                all.put(n, k);
            }
            if (n.kept.values[6][1] > 0) {
                int size = sizeOf(n, n.kept, all.get(nodes.get(0)));
                if (size != n.kept.size) {
                    changed.add(n);
                }
                n.kept.size = size;
            }
        }
        marks.clear();
        for (int[] l : listeners) {
            Node heard = nodes.get(l[0]);
            if (isIn(heard) && heard.kept.changed.contains(l[1])) {
                setClass(l[2], l[3], !nodes.get(l[2]).classes.contains(l[3]));
            }
        }
    }

    private boolean isShared(Node n, Set<Node> done) {
        int place = siblings(n).indexOf(n);
        if (place == 0 || anyRule(s -> mentions(s, Set.of(4, 7), true))) {
            return false;
        }
        Node x = siblings(n).get(place - 1);
        return done.contains(x) && x.kind == n.kind && x.classes.equals(n.classes) && x.states.equals(n.states)
                && Arrays.equals(x.attributes, n.attributes) && x.part == n.part && shownParent(x) == shownParent(n)
                && x.own.isEmpty() && n.own.isEmpty() && x.tops == null && n.tops == null;
    }

    /** Takes over what goes on from the values before; returns whether there is a change. */
    private boolean carryOver(Kept before, Kept k) {
        if (before == null) {
            k.playStart = now;
            return true;
        }
        for (int p = 0; p < 15; p++) {
            if (!Arrays.equals(before.values[p], k.values[p])) {
                k.changed.add(p);
            }
        }
        k.size = before.size;
        k.playStart = k.changed.contains(11) ? now : before.playStart;
        for (int p = 0; p < 5; p++) {
            int[] t = before.transitions[p];
            if (!k.changed.contains(p)) {
                k.transitions[p] = t;
            } else if (before.values[p] != null && k.values[p] != null && k.values[10][1] > 0) {
                int ease = k.values[10][1];
                if (t != null && now - t[2] < t[3] && t[0] == k.values[p][1]) {
                    double share = Math.ceil((double) ease * (now - t[2]) / t[3]);
                    ease = Math.max(1, (int) share);
                }
                k.transitions[p] = new int[] {seen(before, p), k.values[p][1], now, ease};
            }
        }
        return !k.changed.isEmpty();
    }

    private int seen(Kept k, int p) {
        int[] t = k.transitions[p];
        if (t != null && now - t[2] < t[3]) {
            return t[0] + (int) ((long) (t[1] - t[0]) * (now - t[2]) / t[3]);
        }
        int play = k.values[11][1];
        int gone = now - k.playStart;
        if (play < 0 || play > 3 || k.important[p] || !moves[play].frames.containsKey(p)
                || gone >= moves[play].length * moves[play].rounds) {
            return told(k.values[p], p);
        }
        Move m = moves[play];
        Map<Integer, Integer> frames = m.frames.get(p);
        int own = k.values[p] == null ? 0 : k.values[p][1];
        int ticks = gone % m.length;
        if (m.turns && gone / m.length % 2 == 1) {
            ticks = m.length - ticks;
        }
        int at = 10 * ticks;
        int ahead = frames.keySet().stream().filter(f -> f * m.length <= at).max(Integer::compare).orElse(NONE);
        int behind = frames.keySet().stream().filter(f -> f * m.length > at).min(Integer::compare).orElse(NONE);
        int from = ahead == NONE ? own : frames.get(ahead);
        int to = behind == NONE ? own : frames.get(behind);
        long begin = ahead == NONE ? 0 : (long) ahead * m.length;
        long end = behind == NONE ? 10L * m.length : (long) behind * m.length;
        return end == begin ? from : from + (int) ((to - from) * (at - begin) / (end - begin));
    }

    int value(int element, int property) {
        read(element);
        return told(nodes.get(element).kept.values[property], property);
    }

    int size(int element) {
        read(element);
        Kept k = nodes.get(element).kept;
        return k.values[6][1] > 0 ? k.size : NONE;
    }

    int seen(int element, int property) {
        read(element);
        return seen(nodes.get(element).kept, property);
    }

    private int count;

    int made(int element) {
        read(element);
        count = 0;
        Map<Node, Integer> made = new HashMap<>();
        countFrom(nodes.get(0), made);
        return made.getOrDefault(nodes.get(element), NONE);
    }

    private void countFrom(Node n, Map<Node, Integer> made) {
        int[][] values = n.kept.values;
        if (values[5][1] == 0) {
            return;
        }
        if (values[8][1] >= 0) {
            count = values[8][1];
        }
        count += values[7][1];
        if (values[9][1] > 0) {
            made.put(n, count);
        }
        shownChildren(n).forEach(c -> countFrom(c, made));
    }

    int why(int element, int property, int rule) {
        read(element);
        Node n = nodes.get(element);
        Rule r = rules.get(rule);
        if (!r.declared.containsKey(property)) {
            return 11;
        }
        Map<Node, Kept> all = new HashMap<>();
        inDocument().forEach(x -> all.put(x, x.kept));
        Integer held = heldSize(n, all);
        int barrier = barrier(r, n, held);
        if (barrier != 0) {
            return barrier;
        }
        return compare(candidates(n, property, held).get(0), new Candidate(r, r.declared.get(property), n));
    }

    int marked() {
        return inDocument().stream().filter(marks::contains).mapToInt(n -> 1 << n.id).sum();
    }

    // ---- ticks

    int tick(int ticks) {
        now += ticks;
        return now;
    }

    void animation(int animation, int length, int rounds, boolean turns) {
        moves[animation].length = length;
        moves[animation].rounds = rounds;
        moves[animation].turns = turns;
    }

    int frame(int animation, int property, int tenth, int number) {
        moves[animation].frames.computeIfAbsent(property, p -> new HashMap<>()).put(tenth, number);
        return moves[animation].frames.values().stream().mapToInt(Map::size).sum();
    }

    int listen(int element, int property, int other, int name) {
        must(listeners.size() < 6);
        listeners.add(new int[] {element, property, other, name});
        return listeners.size() - 1;
    }
}
