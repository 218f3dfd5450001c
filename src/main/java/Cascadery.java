/**
 * A styler of documents. The document's promises are kept by the methods of the face; the classes inside hold the
 * trees, the selectors, the sheets with their rules, and the values that are kept for each element.
 *
 * Sets of elements, classes, states, properties and selectors are ints, with the bit 1 << number for each member.
 */
public final class Cascadery {
    public static final int NONE = -1;
    public static final int AUTO_VALUE = -1000000, INVALID = -1000001;
    public static final int BELOW = 0, CHILD = 1, NEXT = 2, LATER = 3;
    public static final int KIND = 0, CLASS = 1, STATE = 2, ATTRIBUTE = 3, NTH = 4, NOT = 5, IS = 6, HAS = 7, HOST = 8, PART = 9;
    public static final int AGENT = 0, USER = 1, AUTHOR = 2;
    public static final int WIDE = 0, NARROW = 1, ROOMY = 2, TIGHT = 3, KNOWN = 4;
    public static final int PLAIN = 0, PX = 1, EM = 2, TOP = 3, PERCENT = 4, HELD = 5, AUTO = 6, INITIAL = 7, INHERIT = 8, UNSET = 9, REVERT = 10;
    public static final int TINT = 0, SIZE = 1, SPAN = 2, GAP = 3, EDGE = 4, SHOWN = 5, HOLDS = 6, STEP = 7, RESET = 8, MADE = 9, EASE = 10, PLAY = 11;

    private static final int MOST_ELEMENTS = 30;
    private static final int MOST_SELECTORS = 30;
    private static final int MOST_COMPOUNDS = 4;
    private static final int MOST_TESTS = 4;
    private static final int MOST_SHEETS = 8;
    private static final int MOST_RULES = 40;
    private static final int MOST_LISTENERS = 6;
    private static final int MOST_FLUSHES = 4;
    private static final int MOST_NUMBER = 9999;
    private static final int MOST_VALUE = 100000;

    private static final int KINDS = 8;
    private static final int CLASSES = 8;
    private static final int STATES = 4;
    private static final int ATTRIBUTES = 2;
    private static final int ATTRIBUTE_NUMBERS = 10;
    private static final int PARTS = 4;
    private static final int MOST_NTH = 9;
    private static final int LAYERS = 4;
    private static final int SLOT = 7;

    private static final int PROPERTIES = 15;
    private static final int FIRST_VARIABLE = 12;
    private static final int GAP_AND_EDGE = 15;
    private static final int SEEN_PROPERTIES = 5;
    private static final int ANIMATIONS = 4;
    private static final int TENTHS = 10;

    /** The unit of a declaration that takes its value from a variable. */
    private static final int VAR = 11;
    /** What is added to the number of an element, where the number of a rule, or of a parent, may stand. */
    private static final int ELEMENT_OFFSET = 100;
    /** The place of the document's tree among the trees, behind those of all hosts. */
    private static final int DOCUMENT = MOST_ELEMENTS;
    private static final int FIRST_SIZE = 16;
    private static final int[] INITIALS = {0, 16, -1000000, 0, 0, 1, 0, 0, -1, 0, 0, -1};

    private final Trees trees;
    private final Matcher matcher;
    private final Cascade cascade;
    private final Animation[] animations = new Animation[ANIMATIONS];
    private final Listener[] listeners = new Listener[MOST_LISTENERS];
    private int listenerCount;
    private int now;

    /** The values of elements as valueAnew() finds them. */
    private final Style[] anewStyles = new Style[MOST_ELEMENTS];
    /** What is found for an element that is restyled, and what would come to a shown child of a holder. */
    private final Style foundStyle = new Style();
    private final Style freeStyle = new Style();

    private int marks;
    private int flushCount;
    private int restyledCount;
    private int sharedCount;
    /** The elements that were restyled in this flush, and those that have changed in it or are below such ones. */
    private int restyledNow;
    private int movedNow;

    public Cascadery() {
        Trees newTrees = new Trees();
        Matcher newMatcher = new Matcher(newTrees);
        Cascade newCascade = new Cascade(newTrees, newMatcher);
        trees = newTrees;
        matcher = newMatcher;
        cascade = newCascade;
        for (int i = 0; i < ANIMATIONS; i++) {
            animations[i] = new Animation();
        }
        for (int i = 0; i < MOST_ELEMENTS; i++) {
            anewStyles[i] = new Style();
        }
    }

    // ---- trees

    public int make(int kind) throws IllegalArgumentException, IllegalStateException {
        refuseArgument(!isBelow(kind, KINDS));
        refuseState(trees.count >= MOST_ELEMENTS);
        return trees.addElement(kind);
    }

    public void shadow(int element) throws IndexOutOfBoundsException, IllegalStateException {
        Element e = elementAt(element);
        refuseState(e.isHost);
        e.isHost = true;
        trees.layOut();
        markAll();
    }

    public void put(int element, int parent, int place) throws IndexOutOfBoundsException, IllegalStateException {
        Element e = elementAt(element);
        Element above = elementAt(parent);
        refuseBounds(place < 0 || place > trees.countFrom(above.firstChild));
        refuseState(!trees.mayEnter(e, above));
        trees.insert(e, above, null, place);
        markMove(e, e.next, above, e.treeHost);
    }

    public void putTop(int element, int host, int place) throws IndexOutOfBoundsException, IllegalStateException {
        Element e = elementAt(element);
        Element above = elementAt(host);
        refuseBounds(!above.isHost || place < 0 || place > trees.countFrom(above.firstTop));
        refuseState(!trees.mayEnter(e, above));
        trees.insert(e, null, above, place);
        markMove(e, e.next, null, above);
    }

    public int take(int element) throws IndexOutOfBoundsException, IllegalStateException {
        Element e = elementAt(element);
        Element parent = e.parent;
        Element host = e.host;
        int from = parent != null ? parent.number : host != null ? ELEMENT_OFFSET + host.number : NONE;
        refuseState(from == NONE);
        Element behind = e.next;
        Element treeHost = e.treeHost;
        trees.remove(e);
        markMove(e, behind, parent, treeHost);
        return from;
    }

    public boolean setClass(int element, int name, boolean is) throws IndexOutOfBoundsException, IllegalArgumentException {
        Element e = elementAt(element);
        refuseArgument(!isBelow(name, CLASSES));
        boolean had = isMember(e.classes, name);
        giveClass(e, name, is);
        return had;
    }

    public boolean setState(int element, int state, boolean is) throws IndexOutOfBoundsException, IllegalArgumentException {
        Element e = elementAt(element);
        refuseArgument(!isBelow(state, STATES));
        boolean had = isMember(e.states, state);
        e.states = is ? e.states | 1 << state : e.states & ~(1 << state);
        trees.version++;
        markFeature(e, Selector.feature(STATE, state));
        return had;
    }

    public int setAttribute(int element, int attribute, int number) throws IndexOutOfBoundsException, IllegalArgumentException {
        Element e = elementAt(element);
        refuseArgument(!isBelow(attribute, ATTRIBUTES) || number != NONE && !isBelow(number, ATTRIBUTE_NUMBERS));
        int before = attribute == 0 ? e.attribute0 : e.attribute1;
        if (attribute == 0) {
            e.attribute0 = number;
            trees.version++;
        } else {
            e.attribute1 = number;
            trees.layOut();
            markSlotted(e.parent, e.treeHost);
        }
        markFeature(e, Selector.feature(ATTRIBUTE, attribute));
        return before;
    }

    public int setPart(int element, int part) throws IndexOutOfBoundsException, IllegalArgumentException {
        Element e = elementAt(element);
        refuseArgument(part != NONE && !isBelow(part, PARTS));
        int before = e.part;
        e.part = part;
        trees.version++;
        mark(1 << e.number);
        return before;
    }

    public int shownParent(int element) throws IndexOutOfBoundsException {
        Element e = elementAt(element);
        return e.shownParent == null ? NONE : e.shownParent.number;
    }

    public boolean isIn(int element) throws IndexOutOfBoundsException {
        return trees.holdsElement(elementAt(element));
    }

    // ---- selectors

    public int test(int test, int one, int two) throws IllegalArgumentException, IndexOutOfBoundsException, IllegalStateException {
        refuseArgument(!suitsTest(test, one, two));
        Selector inner = null;
        if (test == NOT || test == IS || test == HAS) {
            inner = matcher.selectorAt(test == HAS ? two : one);
            if (inner != null && inner.reachesOut()) {
                throw new IllegalArgumentException();
            }
            if (inner == null) {
                throw new IndexOutOfBoundsException();
            }
        }
        Selector draft = matcher.draft;
        refuseState(draft.last.count >= MOST_TESTS || test == PART && draft.part != NONE);
        draft.addTest(test, one, two, inner);
        return draft.last.count;
    }

    public int join(int combinator) throws IllegalArgumentException, IllegalStateException {
        refuseArgument(!isBelow(combinator, LATER + 1));
        Selector draft = matcher.draft;
        refuseState(draft.compounds >= MOST_COMPOUNDS || draft.part != NONE);
        draft.addCompound(combinator);
        return draft.compounds;
    }

    public int select() throws IllegalStateException {
        refuseState(matcher.count >= MOST_SELECTORS);
        return matcher.keepDraft();
    }

    public int weight(int selector) throws IndexOutOfBoundsException {
        return selectorAt(selector).weight;
    }

    public boolean matches(int element, int selector, int host) throws IndexOutOfBoundsException {
        Element e = elementAt(element);
        Selector s = selectorAt(selector);
        refuseBounds(!trees.hasTree(host));
        return isMember(matcher.setOf(s, trees.at(host)), e.number);
    }

    public int allThat(int selector, int host) throws IndexOutOfBoundsException {
        Selector s = selectorAt(selector);
        refuseBounds(!trees.hasTree(host));
        return matcher.setOf(s, trees.at(host));
    }

    // ---- sheets, rules, declarations

    public int sheet(int origin, int host, int layer) throws IllegalArgumentException, IndexOutOfBoundsException, IllegalStateException {
        refuseArgument(!isBelow(origin, AUTHOR + 1) || layer != NONE && !isBelow(layer, LAYERS));
        refuseBounds(!trees.hasTree(host));
        refuseState(cascade.sheetCount >= MOST_SHEETS);
        markAll();
        return cascade.addSheet(origin, trees.at(host), layer);
    }

    public boolean turn(int sheet, boolean is) throws IndexOutOfBoundsException {
        Sheet s = sheetAt(sheet);
        boolean was = s.isOn;
        s.isOn = is;
        markAll();
        return was;
    }

    public int rule(int sheet, int selector) throws IndexOutOfBoundsException, IllegalStateException {
        Sheet s = sheetAt(sheet);
        Selector chosen = selectorAt(selector);
        refuseState(cascade.ruleCount >= MOST_RULES);
        markAll();
        return cascade.addRule(s, chosen);
    }

    public void when(int rule, int condition, int number) throws IndexOutOfBoundsException, IllegalArgumentException {
        Rule r = ruleAt(rule);
        refuseArgument(condition != NONE && !isBelow(condition, KNOWN + 1) || !isNumber(number));
        r.condition = condition;
        r.limit = number;
        markAll();
    }

    public int declare(int rule, int property, int unit, int number, boolean isImportant) throws IndexOutOfBoundsException, IllegalArgumentException {
        Rule block = blockAt(rule);
        refuseArgument(!isBelow(property, PROPERTIES + 1) || !isBelow(unit, REVERT + 1) || unit < AUTO && !isNumber(number)
                || !suits(firstOf(property), unit));
        for (int p = firstOf(property); p <= lastOf(property); p++) {
            block.enter(p, unit, unit < AUTO ? number : 0, isImportant);
        }
        markDeclaration(rule);
        return block.countDeclared();
    }

    public int declareVar(int rule, int property, int variable, int unit, int number, boolean isImportant) throws IndexOutOfBoundsException, IllegalArgumentException {
        Rule block = blockAt(rule);
        refuseArgument(!isBelow(property, PROPERTIES + 1) || variable < FIRST_VARIABLE || variable >= PROPERTIES
                || unit != NONE && !isBelow(unit, AUTO + 1) || !isNumber(number));
        for (int p = firstOf(property); p <= lastOf(property); p++) {
            block.enter(p, VAR, unit < AUTO ? number : 0, isImportant);
            block.enterVariable(p, variable, unit);
        }
        markDeclaration(rule);
        return block.countDeclared();
    }

    public int undeclare(int rule, int property) throws IndexOutOfBoundsException, IllegalArgumentException {
        Rule block = blockAt(rule);
        refuseArgument(!isBelow(property, PROPERTIES + 1));
        for (int p = firstOf(property); p <= lastOf(property); p++) {
            block.declared &= ~(1 << p);
        }
        markDeclaration(rule);
        return block.countDeclared();
    }

    public int setWidth(int width) throws IllegalArgumentException {
        refuseArgument(!isBelow(width, MOST_NUMBER + 1));
        int before = cascade.width;
        cascade.width = width;
        markAll();
        return before;
    }

    // ---- values; these calls read

    public int value(int element, int property) throws IndexOutOfBoundsException, IllegalArgumentException, IllegalStateException {
        Element e = elementAt(element);
        refuseArgument(!isBelow(property, PROPERTIES));
        refuseState(!trees.holdsElement(e));
        read();
        return e.kept.values[property];
    }

    public int size(int element) throws IndexOutOfBoundsException, IllegalStateException {
        Element e = elementAt(element);
        refuseState(!trees.holdsElement(e));
        read();
        return e.kept.values[HOLDS] > 0 ? e.kept.size : NONE;
    }

    public int seen(int element, int property) throws IndexOutOfBoundsException, IllegalArgumentException, IllegalStateException {
        Element e = elementAt(element);
        refuseArgument(!isBelow(property, SEEN_PROPERTIES));
        refuseState(!trees.holdsElement(e));
        read();
        return e.kept.seenAt(property, now, playedFor(e.kept));
    }

    public int made(int element) throws IndexOutOfBoundsException, IllegalStateException {
        Element e = elementAt(element);
        refuseState(!trees.holdsElement(e));
        read();
        return countAt(e);
    }

    public int why(int element, int property, int rule) throws IndexOutOfBoundsException, IllegalArgumentException, IllegalStateException {
        Element e = elementAt(element);
        Rule r = ruleAt(rule);
        refuseArgument(!isBelow(property, PROPERTIES));
        refuseState(!trees.holdsElement(e));
        read();
        cascade.prepare();
        return cascade.reason(r, e, property, holderOf(e, false));
    }

    // ---- values without reading

    public int valueAnew(int element, int property) throws IndexOutOfBoundsException, IllegalArgumentException, IllegalStateException {
        Element e = elementAt(element);
        refuseArgument(!isBelow(property, PROPERTIES));
        refuseState(!trees.holdsElement(e));
        cascade.prepare();
        findAnew(e);
        return styleOf(e, true).values[property];
    }

    public int marked() {
        return marks & trees.inDocument;
    }

    public int flushes() {
        return flushCount;
    }

    public int restyled() {
        return restyledCount;
    }

    public int shared() {
        return sharedCount;
    }

    // ---- ticks, animations, listeners

    public int tick(int ticks) throws IllegalArgumentException {
        refuseArgument(ticks < 1 || ticks > 1000);
        now += ticks;
        return now;
    }

    public void animation(int animation, int length, int rounds, boolean turns) throws IllegalArgumentException {
        Animation a = animationAt(animation);
        if (a == null || length < 1 || length > 1000 || rounds < 1 || rounds > 100) {
            throw new IllegalArgumentException();
        }
        a.length = length;
        a.rounds = rounds;
        a.turns = turns;
    }

    public int frame(int animation, int property, int tenth, int number) throws IllegalArgumentException {
        Animation a = animationAt(animation);
        if (a == null || !isBelow(property, SEEN_PROPERTIES) || !isBelow(tenth, TENTHS + 1) || !isNumber(number)) {
            throw new IllegalArgumentException();
        }
        a.enter(property, tenth, number);
        return a.countFrames();
    }

    public int listen(int element, int property, int other, int name) throws IndexOutOfBoundsException, IllegalArgumentException, IllegalStateException {
        Element heard = elementAt(element);
        Element told = elementAt(other);
        refuseArgument(!isBelow(property, PROPERTIES) || !isBelow(name, CLASSES));
        refuseState(listenerCount >= MOST_LISTENERS);
        listeners[listenerCount] = new Listener(heard, property, told, name);
        listenerCount++;
        return listenerCount - 1;
    }

    // ---- what the arguments of calls may be

    private static boolean isBelow(int number, int end) {
        return number >= 0 && number < end;
    }

    private static boolean isNumber(int number) {
        return number >= -MOST_NUMBER && number <= MOST_NUMBER;
    }

    private static boolean isMember(int set, int number) {
        return (set >> number & 1) != 0;
    }

    /** Whether the numbers are in range for the test, selectors left aside. */
    private static boolean suitsTest(int test, int one, int two) {
        switch (test) {
            case KIND:
                return isBelow(one, KINDS);
            case CLASS:
                return isBelow(one, CLASSES);
            case STATE:
                return isBelow(one, STATES);
            case PART:
                return isBelow(one, PARTS);
            case ATTRIBUTE:
                return isBelow(one, ATTRIBUTES) && isBelow(two, ATTRIBUTE_NUMBERS);
            case NTH:
                return one >= -MOST_NTH && one <= MOST_NTH && two >= -MOST_NTH && two <= MOST_NTH;
            case HAS:
                return isBelow(one, LATER + 1);
            default:
                return test == NOT || test == IS || test == HOST;
        }
    }

    /** Whether a unit other than VAR suits a property. */
    private static boolean suits(int property, int unit) {
        if (property >= FIRST_VARIABLE || unit >= INITIAL) {
            return true;
        }
        boolean isLength = property >= SIZE && property <= EDGE;
        switch (unit) {
            case PLAIN:
                return !isLength;
            case PERCENT:
                return property == SIZE || property == SPAN;
            case AUTO:
                return property == SPAN;
            default:
                return isLength;
        }
    }

    private static int firstOf(int property) {
        return property == GAP_AND_EDGE ? GAP : property;
    }

    private static int lastOf(int property) {
        return property == GAP_AND_EDGE ? EDGE : property;
    }

    private static void refuseArgument(boolean isWrong) {
        if (isWrong) {
            throw new IllegalArgumentException();
        }
    }

    private static void refuseBounds(boolean isWrong) {
        if (isWrong) {
            throw new IndexOutOfBoundsException();
        }
    }

    private static void refuseState(boolean isWrong) {
        if (isWrong) {
            throw new IllegalStateException();
        }
    }

    private Element elementAt(int number) {
        Element e = trees.at(number);
        if (e == null) {
            throw new IndexOutOfBoundsException();
        }
        return e;
    }

    private Selector selectorAt(int number) {
        Selector s = matcher.selectorAt(number);
        if (s == null) {
            throw new IndexOutOfBoundsException();
        }
        return s;
    }

    private Sheet sheetAt(int number) {
        Sheet s = cascade.sheetAt(number);
        if (s == null) {
            throw new IndexOutOfBoundsException();
        }
        return s;
    }

    private Rule ruleAt(int number) {
        Rule r = cascade.ruleAt(number);
        if (r == null) {
            throw new IndexOutOfBoundsException();
        }
        return r;
    }

    /** The declarations of a rule, or of an element itself. */
    private Rule blockAt(int rule) {
        return rule < ELEMENT_OFFSET ? ruleAt(rule) : elementAt(rule - ELEMENT_OFFSET).own;
    }

    private Animation animationAt(int animation) {
        return isBelow(animation, ANIMATIONS) ? animations[animation] : null;
    }

    /** The animation that the PLAY of a style names; null for none. */
    private Animation playedFor(Style style) {
        return animationAt(style.values[PLAY]);
    }

    // ---- what edits mark

    private void mark(int set) {
        marks |= set & trees.inDocument;
    }

    private void markAll() {
        mark(trees.inDocument);
    }

    private void markDeclaration(int rule) {
        if (rule < ELEMENT_OFFSET) {
            markAll();
        } else {
            mark(1 << rule - ELEMENT_OFFSET);
        }
    }

    private void giveClass(Element e, int name, boolean is) {
        e.classes = is ? e.classes | 1 << name : e.classes & ~(1 << name);
        trees.version++;
        markFeature(e, Selector.feature(CLASS, name));
    }

    private void markFeature(Element e, int feature) {
        if ((cascade.nearFeatures & feature) != 0) {
            mark(1 << e.number);
        }
        if ((cascade.farFeatures & feature) != 0) {
            mark(trees.around(e));
        }
    }

    /** Marks for an element that was put or taken out; behind is the sibling that is, or was, right behind it. */
    private void markMove(Element e, Element behind, Element parent, Element treeHost) {
        mark(1 << e.number | trees.below(e));
        if (cascade.hasOrder) {
            for (Element sibling = behind; sibling != null; sibling = sibling.next) {
                mark(1 << sibling.number | trees.below(sibling));
            }
        }
        if (cascade.hasHas) {
            markAll();
        }
        markSlotted(parent, treeHost);
    }

    /** Marks what another slot may get: all below a parent that is a host, and below the host of the tree. */
    private void markSlotted(Element parent, Element treeHost) {
        if (parent != null && parent.isHost) {
            mark(trees.below(parent));
        }
        if (treeHost != null) {
            mark(trees.below(treeHost));
        }
    }

    // ---- flushes

    private void read() {
        boolean isDue = (marks & trees.inDocument) != 0 || lacksValues();
        for (int i = 0; i < MOST_FLUSHES && isDue; i++) {
            cascade.prepare();
            flush();
            tellListeners();
            isDue = (marks & trees.inDocument) != 0;
        }
    }

    private boolean lacksValues() {
        for (Element e = trees.top; e != null; e = e.after) {
            if (!e.kept.isKnown) {
                return true;
            }
        }
        return false;
    }

    private void flush() {
        flushCount++;
        restyledNow = 0;
        movedNow = 0;
        for (Element e = trees.top; e != null; e = e.after) {
            boolean isMoved = e.shownParent != null && isMember(movedNow, e.shownParent.number);
            e.kept.changes = 0;
            if (isMoved || isMember(marks, e.number) || !e.kept.isKnown) {
                isMoved |= restyle(e);
            }
            if (e.kept.values[HOLDS] > 0) {
                isMoved |= renewSize(e);
            }
            if (isMoved) {
                movedNow |= 1 << e.number;
            }
        }
        marks = 0;
    }

    /** Finds the values of an element; returns whether some are others than before, or the first ones. */
    private boolean restyle(Element e) {
        boolean isFirst = !e.kept.isKnown;
        findStyle(foundStyle, e, false);
        e.kept.adopt(foundStyle, now, playedFor(e.kept));
        restyledCount++;
        if (isLikePrevious(e)) {
            sharedCount++;
        }
        restyledNow |= 1 << e.number;
        return isFirst || e.kept.changes != 0;
    }

    private boolean isLikePrevious(Element e) {
        Element previous = e.previous;
        return previous != null && isMember(restyledNow, previous.number) && !cascade.hasOrder && !cascade.hasHas
                && e.looksLike(previous);
    }

    /** Finds the size of a holder; returns whether it is another one than before. */
    private boolean renewSize(Element e) {
        int before = e.kept.size;
        e.kept.size = sizeFor(e, false);
        return e.kept.size != before;
    }

    private void tellListeners() {
        for (int i = 0; i < listenerCount && i < MOST_LISTENERS; i++) {
            Listener listener = listeners[i];
            if (listener != null && isMember(listener.heard.kept.changes, listener.property)) {
                giveClass(listener.told, listener.name, !isMember(listener.told.classes, listener.name));
            }
        }
    }

    // ---- finding values

    private Style styleOf(Element e, boolean isAnew) {
        return isAnew && isBelow(e.number, MOST_ELEMENTS) ? anewStyles[e.number] : e.kept;
    }

    private Style holderOf(Element e, boolean isAnew) {
        for (Element above = e.shownParent; above != null; above = above.shownParent) {
            Style style = styleOf(above, isAnew);
            if (style.values[HOLDS] > 0) {
                return style;
            }
        }
        return null;
    }

    private void findStyle(Style style, Element e, boolean isAnew) {
        Style holder = holderOf(e, isAnew);
        Style above = e.shownParent == null ? null : styleOf(e.shownParent, isAnew);
        cascade.gather(e, holder);
        style.findFrom(cascade.sources, above, styleOf(trees.top, isAnew), holder, cascade.width);
    }

    private int sizeFor(Element holder, boolean isAnew) {
        Style style = styleOf(holder, isAnew);
        if (style.values[SPAN] != AUTO_VALUE) {
            return style.values[SPAN];
        }
        int sum = 0;
        for (Element e = holder.after; e != null; e = e.after) {
            if (e.shownParent == holder) {
                // without a holder no ROOMY or TIGHT holds, and HELD goes by the window
                cascade.gather(e, null);
                freeStyle.findFrom(cascade.sources, style, styleOf(trees.top, isAnew), null, cascade.width);
                int span = freeStyle.values[SPAN];
                sum += (span == AUTO_VALUE ? 0 : span) + 2 * freeStyle.values[GAP];
            }
        }
        return sum;
    }

    /** Finds the values of an element, and of all above it, from the top on. */
    private void findAnew(Element wanted) {
        int line = 0;
        for (Element e = wanted; e != null; e = e.shownParent) {
            line |= 1 << e.number;
        }
        for (Element e = trees.top; e != null; e = e.after) {
            if (isMember(line, e.number)) {
                Style style = styleOf(e, true);
                findStyle(style, e, true);
                style.size = style.values[HOLDS] > 0 ? sizeFor(e, true) : 0;
            }
        }
    }

    /** The count behind an element, NONE if nothing is made for it. */
    private int countAt(Element wanted) {
        int count = 0;
        int hidden = 0;
        for (Element e = trees.top; e != null; e = e.after) {
            int[] values = e.kept.values;
            if (values[SHOWN] == 0 || e.shownParent != null && isMember(hidden, e.shownParent.number)) {
                hidden |= 1 << e.number;
                continue;
            }
            count = (values[RESET] >= 0 ? values[RESET] : count) + values[STEP];
            if (e == wanted) {
                return values[MADE] > 0 ? count : NONE;
            }
        }
        return NONE;
    }

    /** An element: what selectors test of it, where it is, and what is declared and kept for it. */
    private static final class Element {
        final int number;
        final int kind;
        int classes;
        int states;
        int attribute0 = NONE;
        int attribute1 = NONE;
        int part = NONE;
        boolean isHost;

        /** A child has a parent, a top of a shadow tree a host; without both it is loose, or element 0. */
        Element parent;
        Element host;
        Element firstChild;
        Element firstTop;
        Element next;
        Element previous;

        /** What layOut() finds: the place among siblings, the host of the tree, and what is next in the document. */
        int place = 1;
        Element treeHost;
        Element shownParent;
        Element after;

        final Rule own = new Rule(NONE, null, null);
        final Style kept = new Style();

        Element(int number, int kind) {
            this.number = number;
            this.kind = kind;
        }

        Element above() {
            return parent != null ? parent : host;
        }

        /** Whether all that may tell the styles of two siblings apart is the same. */
        boolean looksLike(Element other) {
            return kind == other.kind && classes == other.classes && states == other.states
                    && attribute0 == other.attribute0 && attribute1 == other.attribute1 && part == other.part
                    && shownParent == other.shownParent && own.declared == 0 && other.own.declared == 0
                    && !isHost && !other.isHost;
        }
    }

    /** All elements, and what hangs on how they are put together. */
    private static final class Trees {
        final Element top = new Element(0, 0);
        int count = 1;
        int inDocument = 1;
        /** Rises whenever another set of elements may match a selector. */
        int version;
        private final Element[] elements = new Element[MOST_ELEMENTS];

        Trees() {
            elements[0] = top;
        }

        /** The element with a number; null if there is none. */
        Element at(int number) {
            return number >= 0 && number < count && number < MOST_ELEMENTS ? elements[number] : null;
        }

        boolean holdsElement(Element e) {
            return (inDocument >> e.number & 1) != 0;
        }

        boolean hasTree(int host) {
            Element e = at(host);
            return host == NONE || e != null && e.isHost;
        }

        int addElement(int kind) {
            if (count < MOST_ELEMENTS) {
                elements[count] = new Element(count, kind);
                count++;
            }
            return count - 1;
        }

        int countFrom(Element first) {
            int length = 0;
            for (Element e = first; e != null; e = e.next) {
                length++;
            }
            return length;
        }

        /** Whether a loose element can be put right below another one. */
        boolean mayEnter(Element e, Element above) {
            for (Element x = above; x != null; x = x.above()) {
                if (x == e) {
                    return false;
                }
            }
            return e != top && e.above() == null;
        }

        /** Puts an element among the children of a parent, or the tops of a host; one of both is null. */
        void insert(Element e, Element parent, Element host, int place) {
            Element ahead = null;
            Element behind = parent != null ? parent.firstChild : host != null ? host.firstTop : null;
            for (int i = 0; i < place && behind != null; i++) {
                ahead = behind;
                behind = behind.next;
            }
            e.parent = parent;
            e.host = host;
            link(e, ahead, e);
            link(e, e, behind);
            layOut();
        }

        void remove(Element e) {
            link(e, e.previous, e.next);
            e.parent = null;
            e.host = null;
            e.next = null;
            e.previous = null;
            layOut();
        }

        /** Makes two siblings neighbours; without the one ahead, the other is the first one where e is. */
        private void link(Element e, Element ahead, Element behind) {
            if (behind != null) {
                behind.previous = ahead;
            }
            if (ahead != null) {
                ahead.next = behind;
            } else if (e.parent != null) {
                e.parent.firstChild = behind;
            } else if (e.host != null) {
                e.host.firstTop = behind;
            }
        }

        /** Finds anew all that hangs on where elements are, and on the names of slots. */
        void layOut() {
            version++;
            inDocument = 0;
            for (int i = 0; i < count; i++) {
                Element each = at(i);
                if (each != null) {
                    settle(each);
                }
            }
            for (int i = 0; i < count; i++) {
                Element each = at(i);
                if (each != null) {
                    each.shownParent = findShownParent(each);
                }
            }
            top.after = null;
            Element e = top;
            for (int i = 0; i < MOST_ELEMENTS && e != null; i++) {
                lineUp(e);
                e = e.after;
            }
        }

        /** Finds the place of an element, the host of its tree, the depth of that, and whether it is in the document. */
        private void settle(Element e) {
            e.place = e.previous == null ? 1 : placeBehind(e.previous);
            int depth = 0;
            Element first = topOf(e);
            e.treeHost = first.host;
            for (Element host = first.host; host != null; host = first.host) {
                depth++;
                first = topOf(host);
            }
            e.own.depth = depth;
            if (first == top) {
                inDocument |= 1 << e.number;
            } else {
                e.kept.forget();
            }
        }

        private int placeBehind(Element last) {
            int place = 1;
            for (Element e = last; e != null; e = e.previous) {
                place++;
            }
            return place;
        }

        private Element topOf(Element e) {
            Element first = e;
            for (Element x = e; x != null; x = x.parent) {
                first = x;
            }
            return first;
        }

        private Element findShownParent(Element e) {
            if (e.parent == null || !e.parent.isHost) {
                return e.above();
            }
            for (Element x = e.parent.firstTop; x != null; x = nextInTree(x)) {
                if (x.kind == SLOT && x.attribute1 == e.attribute1) {
                    return x;
                }
            }
            return e.parent;
        }

        /** The next one of a tree, each element ahead of its children. */
        private Element nextInTree(Element e) {
            if (e.firstChild != null) {
                return e.firstChild;
            }
            for (Element x = e; x != null; x = x.parent) {
                if (x.next != null) {
                    return x.next;
                }
            }
            return null;
        }

        /** Sets the shown children of an element right behind it in the order of the document. */
        private void lineUp(Element e) {
            Element last = e;
            if (e.treeHost != null && e.kind == SLOT) {
                last = lineUpShown(last, e.treeHost.firstChild, e);
            }
            last = lineUpShown(last, e.firstTop, e);
            lineUpShown(last, e.firstChild, e);
        }

        private Element lineUpShown(Element ahead, Element first, Element shownParent) {
            Element last = ahead;
            for (Element e = first; e != null; e = e.next) {
                if (e.shownParent == shownParent) {
                    e.after = last.after;
                    last.after = e;
                    last = e;
                }
            }
            return last;
        }

        /** The elements of a shadow tree, or of the document's for null. */
        int membersOf(Element host) {
            int set = 0;
            for (int i = 0; i < count; i++) {
                Element e = at(i);
                if (e != null && e.treeHost == host && (host != null || holdsElement(e))) {
                    set |= 1 << i;
                }
            }
            return set;
        }

        /** The elements with a part in the shadow trees of some hosts. */
        int partsIn(int hosts, int part) {
            int set = 0;
            for (int i = 0; i < count; i++) {
                Element e = at(i);
                if (e != null && e.part == part && e.treeHost != null && (hosts >> e.treeHost.number & 1) != 0) {
                    set |= 1 << i;
                }
            }
            return set;
        }

        /** The elements of the document that are below one, by shown parents. */
        int below(Element above) {
            int set = 0;
            for (Element e = above.after; e != null; e = e.after) {
                Element parent = e.shownParent;
                if (parent != null && (parent == above || (set >> parent.number & 1) != 0)) {
                    set |= 1 << e.number;
                }
            }
            return set;
        }

        /** The tree of an element of the document, the host of that, and the shadow trees of its elements. */
        int around(Element e) {
            int set = 0;
            if (!holdsElement(e)) {
                return set;
            }
            for (Element x = top; x != null; x = x.after) {
                boolean isDeeper = x.treeHost != null && x.treeHost.treeHost == e.treeHost;
                if (x.treeHost == e.treeHost || x == e.treeHost || isDeeper) {
                    set |= 1 << x.number;
                }
            }
            return set;
        }
    }

    /** A row of tests, and the combinator between the compound ahead and this one. */
    private static final class Compound {
        final int combinator;
        final int[] kinds = new int[MOST_TESTS];
        final int[] ones = new int[MOST_TESTS];
        final int[] twos = new int[MOST_TESTS];
        int count;
        boolean hasHost;
        /** The classes, states and attributes that are tested: here, and anywhere in it. */
        int nearFeatures;
        int farFeatures;
        int allFeatures;
        Compound next;

        Compound(int combinator) {
            this.combinator = combinator;
        }
    }

    /** A row of compounds, and what the marking of edits asks of it. */
    private static final class Selector {
        final Compound first = new Compound(BELOW);
        Compound last = first;
        int compounds = 1;
        int number = NONE;
        int part = NONE;
        boolean hasHost;
        int weight;
        boolean hasOrder;
        boolean hasHas;
        /** The selectors that must be matched for this one, with itself. */
        int needed;
        /** The classes, states and attributes whose change touches the element itself, or others around it. */
        int nearFeatures;
        int farFeatures;
        int allFeatures;

        /** The bit of a class, a state or an attribute; 0 for what no edit changes alone. */
        static int feature(int test, int name) {
            switch (test) {
                case CLASS:
                    return 1 << name;
                case STATE:
                    return 1 << CLASSES + name;
                case ATTRIBUTE:
                    return 1 << CLASSES + STATES + name;
                default:
                    return 0;
            }
        }

        boolean reachesOut() {
            return hasHost || part != NONE;
        }

        void addCompound(int combinator) {
            last.next = new Compound(combinator);
            last = last.next;
            compounds++;
            hasOrder |= combinator == NEXT || combinator == LATER;
        }

        void addTest(int test, int one, int two, Selector inner) {
            if (last.count >= MOST_TESTS) {
                return;
            }
            last.kinds[last.count] = test;
            last.ones[last.count] = one;
            last.twos[last.count] = two;
            last.count++;
            if (inner != null) {
                addInner(test, inner);
                return;
            }
            weight += test == KIND || test == PART ? 1 : 100;
            last.nearFeatures |= feature(test, one);
            last.allFeatures |= feature(test, one);
            hasOrder |= test == NTH;
            if (test == HOST) {
                last.hasHost = true;
                hasHost = true;
            }
            if (test == PART) {
                part = one;
            }
        }

        private void addInner(int test, Selector inner) {
            weight += inner.weight;
            needed |= inner.needed;
            hasOrder |= inner.hasOrder;
            hasHas |= inner.hasHas || test == HAS;
            last.allFeatures |= inner.allFeatures;
            if (test == HAS || inner.compounds > 1) {
                last.farFeatures |= inner.allFeatures;
            } else {
                last.nearFeatures |= inner.nearFeatures;
                last.farFeatures |= inner.farFeatures;
            }
        }

        /** Makes the draft a selector: only now it is known which compound is the last one. */
        void finish(int newNumber) {
            number = newNumber;
            needed |= 1 << newNumber;
            for (Compound c = first; c != null; c = c.next) {
                allFeatures |= c.allFeatures;
                farFeatures |= c == last ? c.farFeatures : c.allFeatures;
            }
            nearFeatures = last.nearFeatures;
            if (reachesOut()) {
                farFeatures = allFeatures;
            }
        }
    }

    /** All selectors, the draft, and the sets of elements that match them in the trees. */
    private static final class Matcher {
        private final Trees trees;
        private final Selector[] selectors = new Selector[MOST_SELECTORS];
        int count;
        Selector draft = new Selector();
        /** For each tree the set of each selector, the selectors whose set is known, and as of which version. */
        private final int[][] sets = new int[MOST_ELEMENTS + 1][MOST_SELECTORS];
        private final int[] known = new int[MOST_ELEMENTS + 1];
        private final int[] versions = new int[MOST_ELEMENTS + 1];

        Matcher(Trees trees) {
            this.trees = trees;
        }

        Selector selectorAt(int number) {
            return number >= 0 && number < count && number < MOST_SELECTORS ? selectors[number] : null;
        }

        int keepDraft() {
            if (count < MOST_SELECTORS) {
                draft.finish(count);
                selectors[count] = draft;
                draft = new Selector();
                count++;
            }
            return count - 1;
        }

        /** The elements that match a selector in the shadow tree of a host, or in the document's for null. */
        int setOf(Selector selector, Element host) {
            int tree = host == null ? DOCUMENT : host.number;
            if (tree < 0 || tree > DOCUMENT || selector.number < 0 || selector.number >= MOST_SELECTORS) {
                return 0;
            }
            if (versions[tree] != trees.version) {
                versions[tree] = trees.version;
                known[tree] = 0;
            }
            int missing = selector.needed & ~known[tree];
            // those inside a selector have lesser numbers, so their sets are there when it needs them
            for (int i = 0; i <= selector.number && missing != 0; i++) {
                Selector inner = selectorAt(i);
                if (inner != null && (missing >> i & 1) != 0) {
                    sets[tree][i] = findSet(inner, host, sets[tree]);
                }
            }
            known[tree] |= missing;
            return sets[tree][selector.number];
        }

        private int findSet(Selector selector, Element host, int[] matched) {
            int members = trees.membersOf(host);
            int set = 0;
            for (Compound c = selector.first; c != null; c = c.next) {
                int fitting = findFitting(c, c.hasHost ? host == null ? 0 : 1 << host.number : members, matched);
                set = c == selector.first ? fitting : reached(fitting, c.combinator, set);
            }
            return selector.part == NONE ? set : trees.partsIn(set, selector.part);
        }

        /** Those of a set that pass all tests of a compound; what selectors inside match is told by their numbers. */
        private int findFitting(Compound c, int candidates, int[] matched) {
            int set = candidates;
            for (int i = 0; i < c.count && i < MOST_TESTS; i++) {
                int one = c.ones[i];
                int two = c.twos[i];
                switch (c.kinds[i]) {
                    case NOT:
                        set &= isBelow(one, MOST_SELECTORS) ? ~matched[one] : 0;
                        break;
                    case IS:
                        set &= isBelow(one, MOST_SELECTORS) ? matched[one] : 0;
                        break;
                    case HAS:
                        set &= isBelow(two, MOST_SELECTORS) ? origins(matched[two], one) : 0;
                        break;
                    case HOST:
                    case PART:
                        break;
                    default:
                        set = passing(set, c.kinds[i], one, two);
                }
            }
            return set;
        }

        private int passing(int set, int test, int one, int two) {
            int left = set;
            for (int i = 0; i < trees.count; i++) {
                Element e = trees.at(i);
                if (e != null && (set >> i & 1) != 0 && !passes(e, test, one, two)) {
                    left &= ~(1 << i);
                }
            }
            return left;
        }

        private boolean passes(Element e, int test, int one, int two) {
            switch (test) {
                case KIND:
                    return e.kind == one;
                case CLASS:
                    return (e.classes >> one & 1) != 0;
                case STATE:
                    return (e.states >> one & 1) != 0;
                case ATTRIBUTE:
                    return (one == 0 ? e.attribute0 : e.attribute1) == two;
                default:
                    int behind = e.place - two;
                    return one == 0 ? behind == 0 : behind % one == 0 && behind / one >= 0;
            }
        }

        /** Those of a set that a combinator reaches from one of some others. */
        private int reached(int set, int combinator, int others) {
            int left = 0;
            for (int i = 0; i < trees.count; i++) {
                Element e = trees.at(i);
                if (e != null && (set >> i & 1) != 0 && (sources(e, combinator) & others) != 0) {
                    left |= 1 << i;
                }
            }
            return left;
        }

        /** All from which a combinator reaches one of a set. */
        private int origins(int set, int combinator) {
            int all = 0;
            for (int i = 0; i < trees.count; i++) {
                Element e = trees.at(i);
                if (e != null && (set >> i & 1) != 0) {
                    all |= sources(e, combinator);
                }
            }
            return all;
        }

        /** All from which a combinator reaches an element, with some of other trees, which match nothing in this. */
        private int sources(Element e, int combinator) {
            int set = 0;
            boolean isUp = combinator == BELOW || combinator == CHILD;
            int most = combinator == BELOW || combinator == LATER ? MOST_ELEMENTS : 1;
            Element x = e;
            for (int i = 0; i < most && x != null; i++) {
                x = !isUp ? x.previous : x.parent != null ? x.parent : x.host;
                set |= x == null ? 0 : 1 << x.number;
            }
            return set;
        }
    }

    private static final class Sheet {
        final int number;
        final int origin;
        /** The host of its tree; null for the document's. */
        final Element host;
        final int layer;
        boolean isOn = true;

        Sheet(int number, int origin, Element host, int layer) {
            this.number = number;
            this.origin = origin;
            this.host = host;
            this.layer = layer;
        }
    }

    /** The declarations of a rule, or, without a sheet, those of an element itself. */
    private static final class Rule {
        final int number;
        final Sheet sheet;
        final Selector selector;
        final int origin;
        int condition = NONE;
        int limit;
        /** The properties that are declared, and those that are important. */
        int declared;
        int important;
        final int[] units = new int[PROPERTIES];
        final int[] numbers = new int[PROPERTIES];
        /** For the unit VAR: the variable, and the unit of the second value, which has the number. */
        final int[] variables = new int[PROPERTIES];
        final int[] secondUnits = new int[PROPERTIES];
        /** The depth of the tree from which it is, and the elements that match it there, as the trees are now. */
        int depth;
        int matching;
        Rule next;

        Rule(int number, Sheet sheet, Selector selector) {
            this.number = number;
            this.sheet = sheet;
            this.selector = selector;
            this.origin = sheet == null ? AUTHOR : sheet.origin;
        }

        boolean declares(int property) {
            return (declared >> property & 1) != 0;
        }

        void enter(int property, int unit, int count, boolean isImportant) {
            if (isBelow(property, PROPERTIES)) {
                declared |= 1 << property;
                important = isImportant ? important | 1 << property : important & ~(1 << property);
                units[property] = unit;
                numbers[property] = count;
            }
        }

        void enterVariable(int property, int variable, int secondUnit) {
            if (isBelow(property, PROPERTIES)) {
                variables[property] = variable;
                secondUnits[property] = secondUnit;
            }
        }

        int countDeclared() {
            return Integer.bitCount(declared);
        }
    }

    /** All sheets and rules, and which declarations go ahead of others. */
    private static final class Cascade {
        private final Trees trees;
        private final Matcher matcher;
        private final Sheet[] sheets = new Sheet[MOST_SHEETS];
        private final Rule[] rules = new Rule[MOST_RULES];
        int sheetCount;
        int ruleCount;
        private Rule firstRule;
        private Rule lastRule;
        int width = 1000;
        /** What the selectors of all rules have together. */
        int nearFeatures;
        int farFeatures;
        boolean hasOrder;
        boolean hasHas;
        /** For each property what holds the declaration from which the value is found; null for none. */
        final Rule[] sources = new Rule[PROPERTIES];

        Cascade(Trees trees, Matcher matcher) {
            this.trees = trees;
            this.matcher = matcher;
        }

        Sheet sheetAt(int number) {
            return number >= 0 && number < sheetCount && number < MOST_SHEETS ? sheets[number] : null;
        }

        Rule ruleAt(int number) {
            return number >= 0 && number < ruleCount && number < MOST_RULES ? rules[number] : null;
        }

        int addSheet(int origin, Element host, int layer) {
            if (sheetCount < MOST_SHEETS) {
                sheets[sheetCount] = new Sheet(sheetCount, origin, host, layer);
                sheetCount++;
            }
            return sheetCount - 1;
        }

        int addRule(Sheet sheet, Selector selector) {
            if (ruleCount < MOST_RULES) {
                Rule rule = new Rule(ruleCount, sheet, selector);
                rules[ruleCount] = rule;
                ruleCount++;
                if (lastRule == null) {
                    firstRule = rule;
                } else {
                    lastRule.next = rule;
                }
                lastRule = rule;
                nearFeatures |= selector.nearFeatures;
                farFeatures |= selector.farFeatures;
                hasOrder |= selector.hasOrder;
                hasHas |= selector.hasHas;
            }
            return ruleCount - 1;
        }

        /** Finds which elements match the rules, as the trees are now; none, if the sheet is off or not there. */
        void prepare() {
            for (Rule r = firstRule; r != null; r = r.next) {
                Sheet sheet = r.sheet;
                boolean isLive = sheet != null && sheet.isOn && isThere(sheet);
                r.matching = isLive ? matcher.setOf(r.selector, sheet.host) : 0;
                r.depth = sheet == null || sheet.host == null ? 0 : sheet.host.own.depth + 1;
            }
        }

        private boolean isThere(Sheet sheet) {
            return sheet.host == null || trees.holdsElement(sheet.host);
        }

        /** Why a rule does not apply to an element, as why() tells it; 0 if it does. */
        private int hindrance(Rule r, Element e, Style holder) {
            if (r.sheet == null || !r.sheet.isOn) {
                return 10;
            }
            if (!isThere(r.sheet)) {
                return 9;
            }
            if ((r.matching >> e.number & 1) == 0) {
                return 8;
            }
            return holds(r, holder) ? 0 : 7;
        }

        private boolean holds(Rule r, Style holder) {
            switch (r.condition) {
                case WIDE:
                    return width >= r.limit;
                case NARROW:
                    return width <= r.limit;
                case ROOMY:
                    return holder != null && holder.size >= r.limit;
                case TIGHT:
                    return holder != null && holder.size <= r.limit;
                case KNOWN:
                    return r.limit >= 0 && r.limit < PROPERTIES;
                default:
                    return true;
            }
        }

        private long applying(Element e, Style holder) {
            long set = 0;
            for (Rule r = firstRule; r != null; r = r.next) {
                if ((r.matching >> e.number & 1) != 0 && holds(r, holder)) {
                    set |= 1L << r.number;
                }
            }
            return set;
        }

        /** Finds the sources of all values of an element. */
        void gather(Element e, Style holder) {
            long applying = applying(e, holder);
            for (int p = 0; p < PROPERTIES; p++) {
                Rule source = winner(e, p, applying, AUTHOR + 1);
                // each REVERT leads to a lesser one of three origins
                for (int i = 0; i <= AUTHOR && source != null && source.units[p] == REVERT; i++) {
                    source = winner(e, p, applying, source.origin);
                }
                sources[p] = source;
            }
        }

        /** What has the declaration that goes ahead of all others of the rules, and of lesser origins than a limit. */
        private Rule winner(Element e, int property, long applying, int originEnd) {
            Rule best = AUTHOR < originEnd && e.own.declares(property) ? e.own : null;
            for (Rule r = firstRule; r != null; r = r.next) {
                boolean counts = (applying >> r.number & 1) != 0 && r.declares(property) && r.origin < originEnd;
                if (counts && (best == null || precedence(r, best, property) > 0)) {
                    best = r;
                }
            }
            return best;
        }

        /** By which number one declaration goes ahead of another, negative if the other one does. */
        private int precedence(Rule r, Rule other, int property) {
            boolean isImportant = (r.important >> property & 1) != 0;
            boolean isOtherImportant = (other.important >> property & 1) != 0;
            int rank = isImportant ? AUTHOR + 3 - r.origin : r.origin;
            int otherRank = isOtherImportant ? AUTHOR + 3 - other.origin : other.origin;
            if (rank != otherRank) {
                return rank > otherRank ? 1 : -1;
            }
            if (r.depth != other.depth) {
                return r.depth < other.depth != isImportant ? 2 : -2;
            }
            if (r.sheet == null || other.sheet == null) {
                return r.sheet == null ? 3 : -3;
            }
            int layer = r.sheet.layer == NONE ? LAYERS : r.sheet.layer;
            int otherLayer = other.sheet.layer == NONE ? LAYERS : other.sheet.layer;
            if (layer != otherLayer) {
                return layer > otherLayer != isImportant ? 4 : -4;
            }
            int weight = r.selector == null ? 0 : r.selector.weight;
            int otherWeight = other.selector == null ? 0 : other.selector.weight;
            if (weight != otherWeight) {
                return weight > otherWeight ? 5 : -5;
            }
            if (r.sheet != other.sheet) {
                return r.sheet.number > other.sheet.number ? 6 : -6;
            }
            return r.number > other.number ? 6 : -6;
        }

        /** What why() tells of the declaration of a rule. */
        int reason(Rule r, Element e, int property, Style holder) {
            if (!r.declares(property)) {
                return 11;
            }
            int hindrance = hindrance(r, e, holder);
            if (hindrance != 0) {
                return hindrance;
            }
            Rule best = winner(e, property, applying(e, holder), AUTHOR + 1);
            return best == null || best == r ? 0 : precedence(best, r, property);
        }
    }

    /** The values of an element, with the size that it has as a holder, and its transitions. */
    private static final class Style {
        /** Stands for a variable while its value is not found. */
        private static final int PENDING = -1000002;

        /** Variables as value() tells them. */
        final int[] values = new int[PROPERTIES];
        boolean isKnown;
        int size;
        /** The properties whose value was found from an important declaration, and those that the flush changed. */
        int important;
        int changes;

        private final int[] begins = new int[SEEN_PROPERTIES];
        private final int[] starts = new int[SEEN_PROPERTIES];
        private final int[] lengths = new int[SEEN_PROPERTIES];
        private int playStart;

        /** What the units go by, while values are found. */
        private Style above;
        private int sizeAbove;
        private int spanAbove;
        private int topSize;
        private int heldSize;

        void forget() {
            isKnown = false;
            changes = 0;
            for (int p = 0; p < SEEN_PROPERTIES; p++) {
                lengths[p] = 0;
            }
        }

        /** Finds all values from their sources; above is the style of the shown parent, null without one. */
        void findFrom(Rule[] sources, Style newAbove, Style top, Style holder, int width) {
            if (sources == null || sources.length < PROPERTIES) {
                return;
            }
            above = newAbove;
            sizeAbove = above == null ? FIRST_SIZE : above.values[SIZE];
            spanAbove = above == null ? width : above.values[SPAN];
            topSize = above == null || top == null ? FIRST_SIZE : top.values[SIZE];
            heldSize = holder == null ? width : holder.size;
            important = 0;
            findVariables(sources);
            values[SIZE] = findValue(SIZE, sources[SIZE]);
            if (above == null) {
                topSize = values[SIZE];
            }
            for (int p = 0; p < PROPERTIES; p++) {
                Rule source = sources[p];
                if (p < FIRST_VARIABLE && p != SIZE) {
                    values[p] = findValue(p, source);
                }
                important |= source == null ? 0 : source.important & 1 << p;
            }
        }

        private void findVariables(Rule[] sources) {
            for (int v = FIRST_VARIABLE; v < PROPERTIES; v++) {
                values[v] = isCircular(v, sources) ? INVALID : PENDING;
            }
            // a variable may lead over all others, so each round finds at least one more
            for (int round = FIRST_VARIABLE; round < PROPERTIES; round++) {
                for (int v = FIRST_VARIABLE; v < PROPERTIES; v++) {
                    if (values[v] == PENDING) {
                        values[v] = findVariable(v, sources[v]);
                    }
                }
            }
        }

        private boolean isCircular(int variable, Rule[] sources) {
            int v = variable;
            for (int i = FIRST_VARIABLE; i < PROPERTIES; i++) {
                Rule source = sources[v];
                if (source == null || source.units[v] != VAR) {
                    return false;
                }
                v = source.variables[v];
                if (v == variable) {
                    return true;
                }
                if (v < FIRST_VARIABLE || v >= PROPERTIES) {
                    return false;
                }
            }
            return false;
        }

        /** The value of a variable, PENDING if it needs one that is. */
        private int findVariable(int v, Rule source) {
            int unit = source == null ? UNSET : source.units[v];
            if (unit == INITIAL) {
                return INVALID;
            }
            if (source == null || unit == INHERIT || unit == UNSET) {
                return above == null ? INVALID : above.values[v];
            }
            if (unit == VAR) {
                int other = source.variables[v];
                int taken = other < FIRST_VARIABLE || other >= PROPERTIES ? INVALID : values[other];
                unit = source.secondUnits[v];
                if (taken != INVALID || unit == NONE) {
                    return taken;
                }
            }
            return MOST_VALUE * unit + source.numbers[v];
        }

        private int findValue(int property, Rule source) {
            if (source == null) {
                return evaluated(property, UNSET, 0);
            }
            int unit = source.units[property];
            int number = source.numbers[property];
            if (unit == VAR) {
                int variable = source.variables[property];
                int code = variable < FIRST_VARIABLE || variable >= PROPERTIES ? INVALID : values[variable];
                if (code == INVALID) {
                    unit = source.secondUnits[property];
                } else {
                    // half a step more, for numbers below 0
                    unit = (code + MOST_VALUE / 2) / MOST_VALUE;
                    number = code - MOST_VALUE * unit;
                }
                unit = unit == NONE || !suits(property, unit) ? UNSET : unit;
            }
            return evaluated(property, unit, number);
        }

        private int evaluated(int property, int unit, int number) {
            boolean isInherited = unit == INHERIT || unit == UNSET && (property == TINT || property == SIZE);
            int base = 0;
            switch (unit) {
                case PLAIN:
                case PX:
                    return number;
                case EM:
                    base = property == SIZE ? sizeAbove : values[SIZE];
                    break;
                case TOP:
                    base = topSize;
                    break;
                case PERCENT:
                    if (property == SPAN && spanAbove == AUTO_VALUE) {
                        return AUTO_VALUE;
                    }
                    base = property == SPAN ? spanAbove : sizeAbove;
                    break;
                case HELD:
                    base = heldSize;
                    break;
                case AUTO:
                    return AUTO_VALUE;
                default:
                    return isInherited && above != null ? above.values[property] : INITIALS[property];
            }
            long hundredths = (long) number * base / 100;
            return hundredths < -MOST_VALUE ? -MOST_VALUE : hundredths > MOST_VALUE ? MOST_VALUE : (int) hundredths;
        }

        /** Takes over what a flush found; played is the animation that PLAY named so far, null for none. */
        void adopt(Style found, int now, Animation played) {
            for (int p = 0; p < PROPERTIES; p++) {
                if (isKnown && values[p] != found.values[p]) {
                    changes |= 1 << p;
                }
            }
            for (int p = 0; p < SEEN_PROPERTIES; p++) {
                if ((changes >> p & 1) != 0) {
                    turnTo(p, found.values[p], found.values[EASE], now, played);
                }
            }
            if (!isKnown || values[PLAY] != found.values[PLAY]) {
                playStart = now;
            }
            for (int p = 0; p < PROPERTIES; p++) {
                values[p] = found.values[p];
            }
            important = found.important;
            isKnown = true;
        }

        /** Begins or ends a transition of a property that gets another value. */
        private void turnTo(int p, int value, int ease, int now, Animation played) {
            if (values[p] == AUTO_VALUE || value == AUTO_VALUE || ease <= 0) {
                lengths[p] = 0;
                return;
            }
            int seen = seenAt(p, now, played);
            int gone = now - starts[p];
            int length = ease;
            if (lengths[p] > 0 && gone < lengths[p] && value == begins[p]) {
                int back = (int) (((long) ease * gone + lengths[p] - 1) / lengths[p]);
                length = back < 1 ? 1 : back;
            }
            begins[p] = seen;
            starts[p] = now;
            lengths[p] = length;
        }

        int seenAt(int p, int now, Animation played) {
            int gone = now - starts[p];
            if (lengths[p] > 0 && gone < lengths[p]) {
                return begins[p] + (int) ((long) (values[p] - begins[p]) * gone / lengths[p]);
            }
            if (played == null || (important >> p & 1) != 0) {
                return values[p];
            }
            return played.shownAt(p, now - playStart, values[p]);
        }
    }

    private static final class Animation {
        int length = 10;
        int rounds = 1;
        boolean turns;
        private final int[][] frames = new int[SEEN_PROPERTIES][TENTHS + 1];
        /** For each property the tenths that have a frame. */
        private final int[] tenths = new int[SEEN_PROPERTIES];

        void enter(int property, int tenth, int number) {
            if (isBelow(property, SEEN_PROPERTIES) && isBelow(tenth, TENTHS + 1)) {
                frames[property][tenth] = number;
                tenths[property] |= 1 << tenth;
            }
        }

        int countFrames() {
            int count = 0;
            for (int p = 0; p < SEEN_PROPERTIES; p++) {
                count += Integer.bitCount(tenths[p]);
            }
            return count;
        }

        /** What is seen of a property with so many ticks gone: its value, if this does not show for it. */
        int shownAt(int property, int gone, int value) {
            if (property < 0 || property >= SEEN_PROPERTIES || length <= 0) {
                return value;
            }
            int set = tenths[property];
            if (set == 0 || gone < 0 || gone >= length * rounds) {
                return value;
            }
            int inRound = gone % length;
            // ten times the ticks, so that a tenth is as long as the length
            int at = 10 * (turns && gone / length % 2 == 1 ? length - inRound : inRound);
            int own = value == AUTO_VALUE ? 0 : value;
            int ahead = 0;
            int from = own;
            int behind = TENTHS;
            int to = own;
            for (int tenth = 0; tenth <= TENTHS; tenth++) {
                if ((set >> tenth & 1) != 0 && tenth * length <= at) {
                    ahead = tenth;
                    from = frames[property][tenth];
                }
            }
            for (int tenth = TENTHS; tenth >= 0; tenth--) {
                if ((set >> tenth & 1) != 0 && tenth * length > at) {
                    behind = tenth;
                    to = frames[property][tenth];
                }
            }
            int whole = (behind - ahead) * length;
            return whole <= 0 ? from : from + (int) ((long) (to - from) * (at - ahead * length) / whole);
        }
    }

    private static final class Listener {
        final Element heard;
        final int property;
        final Element told;
        final int name;

        Listener(Element heard, int property, Element told, int name) {
            this.heard = heard;
            this.property = property;
            this.told = told;
            this.name = name;
        }
    }
}
