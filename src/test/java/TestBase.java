import java.util.function.IntConsumer;

/** What the tests of edges share: the names of the face, short ways to build a document, and checks of ranges. */
abstract class TestBase {
    static final int NONE = Cascadery.NONE;
    static final int AUTO_VALUE = Cascadery.AUTO_VALUE;
    static final int INVALID = Cascadery.INVALID;
    static final int BELOW = Cascadery.BELOW;
    static final int CHILD = Cascadery.CHILD;
    static final int NEXT = Cascadery.NEXT;
    static final int LATER = Cascadery.LATER;
    static final int KIND = Cascadery.KIND;
    static final int CLASS = Cascadery.CLASS;
    static final int STATE = Cascadery.STATE;
    static final int ATTRIBUTE = Cascadery.ATTRIBUTE;
    static final int NTH = Cascadery.NTH;
    static final int NOT = Cascadery.NOT;
    static final int IS = Cascadery.IS;
    static final int HAS = Cascadery.HAS;
    static final int HOST = Cascadery.HOST;
    static final int PART = Cascadery.PART;
    static final int AGENT = Cascadery.AGENT;
    static final int USER = Cascadery.USER;
    static final int AUTHOR = Cascadery.AUTHOR;
    static final int WIDE = Cascadery.WIDE;
    static final int NARROW = Cascadery.NARROW;
    static final int ROOMY = Cascadery.ROOMY;
    static final int TIGHT = Cascadery.TIGHT;
    static final int KNOWN = Cascadery.KNOWN;
    static final int PLAIN = Cascadery.PLAIN;
    static final int PX = Cascadery.PX;
    static final int EM = Cascadery.EM;
    static final int TOP = Cascadery.TOP;
    static final int PERCENT = Cascadery.PERCENT;
    static final int HELD = Cascadery.HELD;
    static final int AUTO = Cascadery.AUTO;
    static final int INITIAL = Cascadery.INITIAL;
    static final int INHERIT = Cascadery.INHERIT;
    static final int UNSET = Cascadery.UNSET;
    static final int REVERT = Cascadery.REVERT;
    static final int TINT = Cascadery.TINT;
    static final int SIZE = Cascadery.SIZE;
    static final int SPAN = Cascadery.SPAN;
    static final int GAP = Cascadery.GAP;
    static final int EDGE = Cascadery.EDGE;
    static final int SHOWN = Cascadery.SHOWN;
    static final int HOLDS = Cascadery.HOLDS;
    static final int STEP = Cascadery.STEP;
    static final int RESET = Cascadery.RESET;
    static final int MADE = Cascadery.MADE;
    static final int EASE = Cascadery.EASE;
    static final int PLAY = Cascadery.PLAY;

    static final int LEAST = Integer.MIN_VALUE;
    static final int MOST = Integer.MAX_VALUE;
    /** Begins a compound in a row of selected(); behind it stand the combinator and any number. */
    static final int JOIN = -1;
    static final Class<IndexOutOfBoundsException> BOUNDS = IndexOutOfBoundsException.class;
    static final Class<IllegalArgumentException> ARGUMENT = IllegalArgumentException.class;
    static final Class<IllegalStateException> STATES = IllegalStateException.class;

    final Check check;

    TestBase(String name) {
        check = new Check(name);
    }

    /** The least and the greatest number are taken; those right outside, and the farthest ones, are refused. */
    final void range(String what, int least, int most, Class<? extends RuntimeException> refusal, IntConsumer call) {
        check.taken(what + " " + least, () -> call.accept(least));
        check.taken(what + " " + most, () -> call.accept(most));
        for (int wrong : new int[] {least - 1, most + 1, LEAST, MOST}) {
            check.thrown(what + " " + wrong, refusal, () -> call.accept(wrong));
        }
    }

    /** Adds tests to the draft: three numbers for each, or JOIN, the combinator and any number. */
    static void draft(Cascadery x, int... row) {
        for (int i = 0; i < row.length; i += 3) {
            if (row[i] == JOIN) {
                x.join(row[i + 1]);
            } else {
                x.test(row[i], row[i + 1], row[i + 2]);
            }
        }
    }

    static int selected(Cascadery x, int... row) {
        draft(x, row);
        return x.select();
    }

    /** A rule of a sheet, with a selector of its own. */
    static int ruled(Cascadery x, int sheet, int... row) {
        return x.rule(sheet, selected(x, row));
    }

    static int set(int... numbers) {
        int set = 0;
        for (int n : numbers) {
            set |= 1 << n;
        }
        return set;
    }

    /** All numbers from the first to the last one. */
    static int span(int first, int last) {
        int set = 0;
        for (int n = first; n <= last; n++) {
            set |= 1 << n;
        }
        return set;
    }

    /** Each element the only child of the one ahead. */
    static Cascadery chain(int length) {
        Cascadery x = new Cascadery();
        for (int e = 1; e <= length; e++) {
            x.make(1);
            x.put(e, e - 1, 0);
        }
        return x;
    }

    /** All elements children of 0. */
    static Cascadery row(int length) {
        Cascadery x = new Cascadery();
        for (int e = 1; e <= length; e++) {
            x.make(1);
            x.put(e, 0, e - 1);
        }
        return x;
    }

    /** Loose elements of the kind 1. */
    static Cascadery loose(int count) {
        Cascadery x = new Cascadery();
        for (int e = 1; e <= count; e++) {
            x.make(1);
        }
        return x;
    }

    static void own(Cascadery x, int element, int property, int unit, int number) {
        x.declare(100 + element, property, unit, number, false);
    }

    static void ownVar(Cascadery x, int element, int property, int variable, int unit, int number) {
        x.declareVar(100 + element, property, variable, unit, number, false);
    }

    /** Whether a unit suits a property, 15 too. */
    static boolean suits(int property, int unit) {
        boolean isLength = property >= SIZE && property <= EDGE || property == 15;
        switch (unit) {
            case Cascadery.PLAIN:
                return !isLength;
            case Cascadery.PERCENT:
                return property == SIZE || property == SPAN || property >= 12 && property <= 14;
            case Cascadery.AUTO:
                return property == SPAN || property >= 12 && property <= 14;
            default:
                return unit >= INITIAL || isLength || property >= 12 && property <= 14;
        }
    }
}
