import java.util.ArrayList;
import java.util.List;
import java.util.function.LongSupplier;

/**
 * A Cascadery and a Model that get the same calls. Each call checks its arguments as the document tells, lets the
 * model answer if they are right, and compares: answers, or the exception that is thrown.
 */
final class Pair {
    private static final int BOUNDS = 1;
    private static final int ARGUMENT = 2;
    private static final int STATE = 3;
    private static final int NOTHING = 0;

    final Cascadery real = new Cascadery();
    final Model model = new Model();
    final List<String> calls = new ArrayList<>();
    boolean hasFailed;
    int thrown;

    /** The first of some pairs (is it wrong, which exception) that is wrong. */
    private static int first(Object... checks) {
        for (int i = 0; i < checks.length; i += 2) {
            if ((Boolean) checks[i]) {
                return (Integer) checks[i + 1];
            }
        }
        return NOTHING;
    }

    private long call(String text, int expected, LongSupplier inModel, LongSupplier inReal) {
        int wanted = expected;
        long want = 0;
        if (wanted == NOTHING) {
            try {
                want = inModel.getAsLong();
            } catch (IllegalStateException e) {
                wanted = STATE;
            }
        }
        int got = NOTHING;
        long answer = 0;
        try {
            answer = inReal.getAsLong();
        } catch (IllegalStateException e) {
            got = STATE;
        } catch (IllegalArgumentException e) {
            got = ARGUMENT;
        } catch (IndexOutOfBoundsException e) {
            got = isThrownByCode(e) ? BOUNDS : -1;
        } catch (RuntimeException e) {
            e.printStackTrace();
            got = -1;
        }
        calls.add(text + " = " + (got == NOTHING ? answer : "exception " + got));
        thrown += got == NOTHING ? 0 : 1;
        if (got != wanted || answer != want) {
            hasFailed = true;
            System.out.println(text + " answered " + answer + " with exception " + got
                    + ", due is " + want + " with exception " + wanted);
        }
        return answer;
    }

    /** The machine's own exceptions carry a text, those of the class none. */
    private static boolean isThrownByCode(IndexOutOfBoundsException e) {
        return e.getClass() == IndexOutOfBoundsException.class && e.getMessage() == null;
    }

    private static String text(String name, Object... arguments) {
        StringBuilder text = new StringBuilder(name).append('(');
        for (int i = 0; i < arguments.length; i++) {
            text.append(i == 0 ? "" : ", ").append(arguments[i]);
        }
        return text.append(')').toString();
    }

    private static long number(boolean is) {
        return is ? 1 : 0;
    }

    private boolean noElement(int element) {
        return element < 0 || element >= model.nodes.size();
    }

    private boolean noTree(int host) {
        return host != -1 && (noElement(host) || model.nodes.get(host).tops == null);
    }

    private boolean noSelector(int selector) {
        return selector < 0 || selector >= model.selectors.size();
    }

    private boolean noSheet(int sheet) {
        return sheet < 0 || sheet >= model.sheets.size();
    }

    private boolean noRule(int rule) {
        return rule < 0 || rule >= model.rules.size();
    }

    private boolean noBlock(int rule) {
        return noRule(rule) && (rule < 100 || noElement(rule - 100));
    }

    private static boolean isOut(int number, int least, int most) {
        return number < least || number > most;
    }

    void make(int kind) {
        call(text("make", kind), first(isOut(kind, 0, 7), ARGUMENT), () -> model.make(kind), () -> real.make(kind));
    }

    void shadow(int element) {
        call(text("shadow", element), first(noElement(element), BOUNDS), () -> {
            model.shadow(element);
            return 0;
        }, () -> {
            real.shadow(element);
            return 0;
        });
    }

    void put(int element, int parent, int place) {
        boolean isWrong = noElement(element) || noElement(parent)
                || isOut(place, 0, model.nodes.get(parent).children.size());
        call(text("put", element, parent, place), first(isWrong, BOUNDS), () -> {
            model.put(element, parent, place);
            return 0;
        }, () -> {
            real.put(element, parent, place);
            return 0;
        });
    }

    void putTop(int element, int host, int place) {
        boolean isWrong = noElement(element) || host == -1 || noTree(host)
                || isOut(place, 0, model.nodes.get(host).tops.size());
        call(text("putTop", element, host, place), first(isWrong, BOUNDS), () -> {
            model.putTop(element, host, place);
            return 0;
        }, () -> {
            real.putTop(element, host, place);
            return 0;
        });
    }

    void take(int element) {
        call(text("take", element), first(noElement(element), BOUNDS), () -> model.take(element), () -> real.take(element));
    }

    void setClass(int element, int name, boolean is) {
        call(text("setClass", element, name, is), first(noElement(element), BOUNDS, isOut(name, 0, 7), ARGUMENT),
                () -> number(model.setClass(element, name, is)), () -> number(real.setClass(element, name, is)));
    }

    void setState(int element, int state, boolean is) {
        call(text("setState", element, state, is), first(noElement(element), BOUNDS, isOut(state, 0, 3), ARGUMENT),
                () -> number(model.setState(element, state, is)), () -> number(real.setState(element, state, is)));
    }

    void setAttribute(int element, int attribute, int number) {
        call(text("setAttribute", element, attribute, number),
                first(noElement(element), BOUNDS, isOut(attribute, 0, 1) || isOut(number, -1, 9), ARGUMENT),
                () -> model.setAttribute(element, attribute, number), () -> real.setAttribute(element, attribute, number));
    }

    void setPart(int element, int part) {
        call(text("setPart", element, part), first(noElement(element), BOUNDS, isOut(part, -1, 3), ARGUMENT),
                () -> model.setPart(element, part), () -> real.setPart(element, part));
    }

    void shownParent(int element) {
        call(text("shownParent", element), first(noElement(element), BOUNDS),
                () -> model.shownParent(element), () -> real.shownParent(element));
    }

    void isIn(int element) {
        call(text("isIn", element), first(noElement(element), BOUNDS),
                () -> number(model.isIn(element)), () -> number(real.isIn(element)));
    }

    void test(int test, int one, int two) {
        boolean isInner = test == 5 || test == 6 || test == 7;
        int inner = test == 7 ? two : one;
        boolean isWrong = switch (test) {
            case 0, 1 -> isOut(one, 0, 7);
            case 2, 9, 7 -> isOut(one, 0, 3);
            case 3 -> isOut(one, 0, 1) || isOut(two, 0, 9);
            case 4 -> isOut(one, -9, 9) || isOut(two, -9, 9);
            default -> isOut(test, 0, 9);
        };
        boolean isBarred = isInner && !noSelector(inner) && model.isInnerBarred(inner);
        call(text("test", test, one, two), first(isWrong || isBarred, ARGUMENT, isInner && noSelector(inner), BOUNDS),
                () -> model.test(test, one, two), () -> real.test(test, one, two));
    }

    void join(int combinator) {
        call(text("join", combinator), first(isOut(combinator, 0, 3), ARGUMENT),
                () -> model.join(combinator), () -> real.join(combinator));
    }

    void select() {
        call("select()", NOTHING, model::select, real::select);
    }

    void weight(int selector) {
        call(text("weight", selector), first(noSelector(selector), BOUNDS),
                () -> model.weight(selector), () -> real.weight(selector));
    }

    void matches(int element, int selector, int host) {
        call(text("matches", element, selector, host),
                first(noElement(element) || noSelector(selector) || noTree(host), BOUNDS),
                () -> number(model.matches(element, selector, host)), () -> number(real.matches(element, selector, host)));
    }

    void allThat(int selector, int host) {
        call(text("allThat", selector, host), first(noSelector(selector) || noTree(host), BOUNDS),
                () -> model.allThat(selector, host), () -> real.allThat(selector, host));
    }

    void sheet(int origin, int host, int layer) {
        call(text("sheet", origin, host, layer),
                first(isOut(origin, 0, 2) || isOut(layer, -1, 3), ARGUMENT, noTree(host), BOUNDS),
                () -> model.sheet(origin, host, layer), () -> real.sheet(origin, host, layer));
    }

    void turn(int sheet, boolean is) {
        call(text("turn", sheet, is), first(noSheet(sheet), BOUNDS),
                () -> number(model.turn(sheet, is)), () -> number(real.turn(sheet, is)));
    }

    void rule(int sheet, int selector) {
        call(text("rule", sheet, selector), first(noSheet(sheet) || noSelector(selector), BOUNDS),
                () -> model.rule(sheet, selector), () -> real.rule(sheet, selector));
    }

    void when(int rule, int condition, int number) {
        call(text("when", rule, condition, number),
                first(noRule(rule), BOUNDS, isOut(condition, -1, 4) || isOut(number, -9999, 9999), ARGUMENT), () -> {
                    model.when(rule, condition, number);
                    return 0;
                }, () -> {
                    real.when(rule, condition, number);
                    return 0;
                });
    }

    private static boolean isUnsuited(int property, int unit) {
        boolean isLength = property >= 1 && property <= 4 || property == 15;
        return property < 12 || property == 15 ? switch (unit) {
            case 0 -> isLength;
            case 1, 2, 3, 5 -> !isLength;
            case 4 -> property != 1 && property != 2;
            case 6 -> property != 2;
            default -> false;
        } : false;
    }

    void declare(int rule, int property, int unit, int number, boolean important) {
        boolean isWrong = isOut(property, 0, 15) || isOut(unit, 0, 10) || unit < 6 && isOut(number, -9999, 9999)
                || isUnsuited(property, unit);
        call(text("declare", rule, property, unit, number, important), first(noBlock(rule), BOUNDS, isWrong, ARGUMENT),
                () -> model.declare(rule, property, unit, number, important),
                () -> real.declare(rule, property, unit, number, important));
    }

    void declareVar(int rule, int property, int variable, int unit, int number, boolean important) {
        boolean isWrong = isOut(property, 0, 15) || isOut(variable, 12, 14) || isOut(unit, -1, 6)
                || isOut(number, -9999, 9999);
        call(text("declareVar", rule, property, variable, unit, number, important),
                first(noBlock(rule), BOUNDS, isWrong, ARGUMENT),
                () -> model.declareVar(rule, property, variable, unit, number, important),
                () -> real.declareVar(rule, property, variable, unit, number, important));
    }

    void undeclare(int rule, int property) {
        call(text("undeclare", rule, property), first(noBlock(rule), BOUNDS, isOut(property, 0, 15), ARGUMENT),
                () -> model.undeclare(rule, property), () -> real.undeclare(rule, property));
    }

    void setWidth(int width) {
        call(text("setWidth", width), first(isOut(width, 0, 9999), ARGUMENT),
                () -> model.setWidth(width), () -> real.setWidth(width));
    }

    long value(int element, int property) {
        return call(text("value", element, property), first(noElement(element), BOUNDS, isOut(property, 0, 14), ARGUMENT),
                () -> model.value(element, property), () -> real.value(element, property));
    }

    void size(int element) {
        call(text("size", element), first(noElement(element), BOUNDS),
                () -> model.size(element), () -> real.size(element));
    }

    void seen(int element, int property) {
        call(text("seen", element, property), first(noElement(element), BOUNDS, isOut(property, 0, 4), ARGUMENT),
                () -> model.seen(element, property), () -> real.seen(element, property));
    }

    void made(int element) {
        call(text("made", element), first(noElement(element), BOUNDS),
                () -> model.made(element), () -> real.made(element));
    }

    void why(int element, int property, int rule) {
        call(text("why", element, property, rule),
                first(noElement(element) || noRule(rule), BOUNDS, isOut(property, 0, 14), ARGUMENT),
                () -> model.why(element, property, rule), () -> real.why(element, property, rule));
    }

    long valueAnew(int element, int property) {
        return call(text("valueAnew", element, property),
                first(noElement(element), BOUNDS, isOut(property, 0, 14), ARGUMENT),
                () -> model.valueAnew(element, property), () -> real.valueAnew(element, property));
    }

    void marked() {
        call("marked()", NOTHING, model::marked, real::marked);
    }

    void counts() {
        call("flushes()", NOTHING, () -> model.flushes, real::flushes);
        call("restyled()", NOTHING, () -> model.restyled, real::restyled);
        call("shared()", NOTHING, () -> model.shared, real::shared);
    }

    void tick(int ticks) {
        call(text("tick", ticks), first(isOut(ticks, 1, 1000), ARGUMENT), () -> model.tick(ticks), () -> real.tick(ticks));
    }

    void animation(int animation, int length, int rounds, boolean turns) {
        boolean isWrong = isOut(animation, 0, 3) || isOut(length, 1, 1000) || isOut(rounds, 1, 100);
        call(text("animation", animation, length, rounds, turns), first(isWrong, ARGUMENT), () -> {
            model.animation(animation, length, rounds, turns);
            return 0;
        }, () -> {
            real.animation(animation, length, rounds, turns);
            return 0;
        });
    }

    void frame(int animation, int property, int tenth, int number) {
        boolean isWrong = isOut(animation, 0, 3) || isOut(property, 0, 4) || isOut(tenth, 0, 10)
                || isOut(number, -9999, 9999);
        call(text("frame", animation, property, tenth, number), first(isWrong, ARGUMENT),
                () -> model.frame(animation, property, tenth, number), () -> real.frame(animation, property, tenth, number));
    }

    void listen(int element, int property, int other, int name) {
        call(text("listen", element, property, other, name),
                first(noElement(element) || noElement(other), BOUNDS, isOut(property, 0, 14) || isOut(name, 0, 7), ARGUMENT),
                () -> model.listen(element, property, other, name), () -> real.listen(element, property, other, name));
    }
}
