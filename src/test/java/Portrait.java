import java.util.List;
import java.util.function.BiConsumer;
import java.util.function.LongSupplier;

/**
 * What an object answers to many questions, as a text. There are several views, each to be drawn of an object of its
 * own: they change what they look at, and each asks at most some 300 calls, so that an object's 512 are not passed.
 */
final class Portrait {
    /** The elements, selectors and rules that are looked at; scenes may have more. */
    private static final int ELEMENTS = 12;
    private static final int SELECTORS = 8;
    private static final int RULES = 5;
    private static final int NONE = Cascadery.NONE;

    static final List<BiConsumer<Portrait, Cascadery>> VIEWS = List.of(Portrait::numbers, Portrait::draft,
            Portrait::compounds, Portrait::values, Portrait::anew, Portrait::features, Portrait::matching, Portrait::reasons,
            Portrait::seen, Portrait::ticks, Portrait::declared, Portrait::places, Portrait::listeners);

    private final StringBuilder text = new StringBuilder();

    static String drawn(BiConsumer<Portrait, Cascadery> view, Cascadery x) {
        Portrait portrait = new Portrait();
        view.accept(portrait, x);
        return portrait.text.toString();
    }

    private void tell(String what, LongSupplier call) {
        text.append(what).append(' ');
        try {
            text.append(call.getAsLong());
        } catch (RuntimeException e) {
            text.append(e.getClass().getSimpleName());
        }
        text.append('\n');
    }

    private void tellFlushes(Cascadery x) {
        tell("marked", x::marked);
        tell("flushes", x::flushes);
        tell("restyled", x::restyled);
        tell("shared", x::shared);
    }

    private static long number(boolean is) {
        return is ? 1 : 0;
    }

    /** The next number of all that is made, and all that is told of the state by setting it. */
    private void numbers(Cascadery x) {
        tellFlushes(x);
        tell("make", () -> x.make(0));
        tell("select", x::select);
        tell("sheet", () -> x.sheet(0, NONE, NONE));
        tell("rule", () -> x.rule(0, 0));
        tell("listen", () -> x.listen(0, 0, 0, 0));
        tell("setWidth", () -> x.setWidth(5));
        tell("tick", () -> x.tick(1));
        for (int i = 0; i < 8; i++) {
            int sheet = i;
            tell("turn " + sheet, () -> number(x.turn(sheet, false)));
        }
        for (int i = 0; i < 4; i++) {
            int animation = i;
            tell("frame " + animation, () -> x.frame(animation, 0, 0, 0));
        }
        tellFlushes(x);
    }

    /** How full the draft is, and what it matches. */
    private void draft(Cascadery x) {
        for (int i = 0; i < 5; i++) {
            tell("test", () -> x.test(Cascadery.NTH, 1, 1));
        }
        tell("select", x::select);
        for (int i = 0; i < SELECTORS; i++) {
            int selector = i;
            tell("weight " + selector, () -> x.weight(selector));
            tell("allThat " + selector, () -> x.allThat(selector, NONE));
        }
    }

    /** How many compounds the draft may still get, and whether PART. */
    private void compounds(Cascadery x) {
        for (int i = 0; i < 4; i++) {
            tell("join", () -> x.join(Cascadery.BELOW));
        }
        tell("test PART", () -> x.test(Cascadery.PART, 2, 0));
        tell("select", x::select);
        tell("its weight", () -> x.weight(6));
    }

    private void values(Cascadery x) {
        for (int i = 0; i < ELEMENTS * 15; i++) {
            int element = i / 15;
            int property = i % 15;
            tell("value " + element + " " + property, () -> x.value(element, property));
        }
        tellFlushes(x);
    }

    private void anew(Cascadery x) {
        for (int i = 0; i < ELEMENTS * 15; i++) {
            int element = i / 15;
            int property = i % 15;
            tell("valueAnew " + element + " " + property, () -> x.valueAnew(element, property));
        }
        tellFlushes(x);
    }

    private void features(Cascadery x) {
        for (int i = 0; i < ELEMENTS; i++) {
            int element = i;
            for (int j = 0; j < 8; j++) {
                int name = j;
                tell("setClass " + element + " " + name, () -> number(x.setClass(element, name, false)));
            }
            for (int j = 0; j < 4; j++) {
                int state = j;
                tell("setState " + element + " " + state, () -> number(x.setState(element, state, false)));
            }
            tell("setAttribute " + element + " 0", () -> x.setAttribute(element, 0, NONE));
            tell("setAttribute " + element + " 1", () -> x.setAttribute(element, 1, NONE));
            tell("setPart " + element, () -> x.setPart(element, NONE));
        }
    }

    private void matching(Cascadery x) {
        for (int i = 0; i < SELECTORS; i++) {
            int selector = i;
            for (int j = NONE; j < ELEMENTS; j++) {
                int host = j;
                tell("allThat " + selector + " " + host, () -> x.allThat(selector, host));
            }
        }
    }

    private void reasons(Cascadery x) {
        for (int element : new int[] {0, 1, 3, 4, 6}) {
            for (int i = 0; i < RULES * 11; i++) {
                int rule = i / 11;
                int property = i % 11;
                tell("why " + element + " " + property + " " + rule, () -> x.why(element, property, rule));
            }
        }
    }

    private void seen(Cascadery x) {
        for (int i = 0; i < ELEMENTS; i++) {
            int element = i;
            for (int j = 0; j < 5; j++) {
                int property = j;
                tell("seen " + element + " " + property, () -> x.seen(element, property));
            }
            tell("size " + element, () -> x.size(element));
            tell("made " + element, () -> x.made(element));
        }
    }

    private void ticks(Cascadery x) {
        for (int i = 0; i < 20; i++) {
            tell("tick", () -> x.tick(2));
            for (int element : new int[] {1, 6}) {
                for (int j = 0; j < 5; j++) {
                    int property = j;
                    tell("seen " + element + " " + property, () -> x.seen(element, property));
                }
            }
        }
    }

    private void declared(Cascadery x) {
        for (int i = 0; i < RULES + ELEMENTS; i++) {
            int rule = i < RULES ? i : 100 + i - RULES;
            for (int j = 0; j < 15; j++) {
                int property = j;
                tell("undeclare " + rule + " " + property, () -> x.undeclare(rule, property));
            }
        }
        tellFlushes(x);
    }

    /** Where all elements are; then they are taken out, one by one. */
    private void places(Cascadery x) {
        for (int i = 0; i < ELEMENTS; i++) {
            int element = i;
            tell("isIn " + element, () -> number(x.isIn(element)));
            tell("shownParent " + element, () -> x.shownParent(element));
        }
        for (int i = 0; i < ELEMENTS; i++) {
            int element = i;
            tell("take " + element, () -> x.take(element));
            tell("place of the others", () -> x.allThat(4, NONE));
            tell("shadow " + element, () -> {
                x.shadow(element);
                return 0;
            });
        }
    }

    /** What listeners do in some flushes. */
    private void listeners(Cascadery x) {
        for (int i = 0; i < 4; i++) {
            int number = i;
            tell("declare", () -> x.declare(101, Cascadery.TINT, Cascadery.PLAIN, 70 + number, false));
            tell("value", () -> x.value(1, Cascadery.TINT));
            tellFlushes(x);
            for (int j = 0; j < ELEMENTS; j++) {
                int element = j;
                tell("class 3 of " + element, () -> number(x.setClass(element, 3, number % 2 == 0)));
            }
        }
    }
}
