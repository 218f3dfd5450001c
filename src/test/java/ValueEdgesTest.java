/** The edges of promises 27, 28, 30 and 32, and of what the document says of VALUES and of counters. */
public final class ValueEdgesTest extends TestBase {
    private static final int[] INITIALS = {0, 16, AUTO_VALUE, 0, 0, 1, 0, 0, -1, 0, 0, -1, INVALID, INVALID, INVALID};

    private ValueEdgesTest() {
        super("ValueEdgesTest");
    }

    public static void main(String[] args) {
        ValueEdgesTest test = new ValueEdgesTest();
        test.askedNumbers();
        test.outOfTheDocument();
        test.initialValues();
        test.inheritedOrNot();
        test.withoutShownParent();
        test.element0();
        test.cutTowardZero();
        test.boundsOfValues();
        test.boundBehindBound();
        test.productsThatWrap();
        test.percentOfAuto();
        test.codesOfVariables();
        test.secondUnits();
        test.unitsFromVariables();
        test.invalidVariables();
        test.allCircles();
        test.circlesAndReverts();
        test.reverts();
        test.revertsOfInheritedOnes();
        test.revertsOfImportantOnes();
        test.holdsAboveZero();
        test.nearestHolder();
        test.noHolder();
        test.sizes();
        test.autoSizes();
        test.greatestSum();
        test.freeOfHolders();
        test.sizeThatStays();
        test.anewWithoutFlush();
        test.leftOut();
        test.resets();
        test.madeOrNot();
        test.check.end();
    }

    /** "IndexOutOfBoundsException if there is no such element"; "property: 0 to 14" */
    private void askedNumbers() {
        range("value of", 0, 2, BOUNDS, e -> row(2).value(e, TINT));
        range("value", 0, 14, ARGUMENT, p -> row(2).value(2, p));
        range("valueAnew of", 0, 2, BOUNDS, e -> row(2).valueAnew(e, TINT));
        range("valueAnew", 0, 14, ARGUMENT, p -> row(2).valueAnew(2, p));
        range("size of", 0, 2, BOUNDS, e -> row(2).size(e));
        range("made of", 0, 2, BOUNDS, e -> row(2).made(e));
    }

    /** "IllegalStateException if the element is not in the document", behind the others */
    private void outOfTheDocument() {
        Cascadery x = loose(3);
        x.shadow(1);
        x.putTop(2, 1, 0);
        x.put(3, 2, 0);
        for (int e = 1; e <= 3; e++) {
            int out = e;
            check.state("value", () -> x.value(out, 14));
            check.state("valueAnew", () -> x.valueAnew(out, 0));
            check.state("size", () -> x.size(out));
            check.state("made", () -> x.made(out));
            check.argument("value of a wrong property", () -> x.value(out, 15));
            check.argument("valueAnew of a wrong property", () -> x.valueAnew(out, -1));
        }
        check.bounds("value, all wrong", () -> x.value(4, 15));
        check.due("none of that flushed", x.flushes(), 0);
        x.put(1, 0, 0);
        check.due("in the document", x.value(3, SIZE), 16);
        x.take(1);
        check.state("out again", () -> x.value(3, SIZE));
        check.state("out again, anew", () -> x.valueAnew(3, SIZE));
    }

    /** "Initial values are 0, but 16 for SIZE, AUTO for SPAN, 1 for SHOWN, -1 for RESET and PLAY; a variable has none" */
    private void initialValues() {
        Cascadery x = row(1);
        for (int p = 0; p <= 14; p++) {
            check.due("without a declaration: " + p, x.value(1, p), INITIALS[p]);
            check.due("of 0: " + p, x.value(0, p), INITIALS[p]);
            check.due("anew: " + p, x.valueAnew(1, p), INITIALS[p]);
        }
        for (int p = 0; p <= 14; p++) {
            own(x, 0, p, p >= SIZE && p <= EDGE ? PX : PLAIN, 7);
            own(x, 1, p, INITIAL, 7);
            check.due("INITIAL: " + p, x.value(1, p), INITIALS[p]);
        }
    }

    /** "TINT, SIZE and the variables are inherited."; "UNSET, as INHERIT for inherited properties, as INITIAL for others" */
    private void inheritedOrNot() {
        Cascadery x = chain(2);
        for (int p = 0; p <= 14; p++) {
            boolean isLength = p >= SIZE && p <= EDGE;
            own(x, 0, p, isLength ? PX : PLAIN, 7);
            boolean isInherited = p == TINT || p == SIZE || p >= 12;
            check.due("without a declaration: " + p, x.value(2, p), isInherited ? 7 : INITIALS[p]);
            own(x, 2, p, UNSET, 0);
            check.due("UNSET: " + p, x.value(2, p), isInherited ? 7 : INITIALS[p]);
            own(x, 2, p, REVERT, 0);
            check.due("REVERT to none: " + p, x.value(2, p), isInherited ? 7 : INITIALS[p]);
            own(x, 2, p, INHERIT, 0);
            check.due("INHERIT: " + p, x.value(2, p), isInherited ? 7 : INITIALS[p]);
            own(x, 1, p, INHERIT, 0);
            check.due("INHERIT of INHERIT: " + p, x.value(2, p), 7);
        }
    }

    /** "INHERIT, the value of the shown parent, the initial one without it"; variables: "invalid without one" */
    private void withoutShownParent() {
        for (int unit : new int[] {INHERIT, UNSET, REVERT, INITIAL}) {
            Cascadery x = new Cascadery();
            for (int p = 0; p <= 14; p++) {
                own(x, 0, p, unit, 0);
                check.due("the unit " + unit + " of " + p, x.value(0, p), INITIALS[p]);
            }
        }
    }

    /** "for SIZE of element 0 itself of 16"; "16 without one"; "for element 0 of the window" */
    private void element0() {
        for (int unit : new int[] {EM, TOP, PERCENT}) {
            Cascadery x = new Cascadery();
            own(x, 0, SIZE, unit, 625);
            check.due("SIZE of 0 by unit " + unit, x.value(0, SIZE), 100);
            own(x, 0, GAP, EM, 50);
            own(x, 0, EDGE, TOP, 25);
            check.due("EM of its SIZE", x.value(0, GAP), 50);
            check.due("TOP of its SIZE", x.value(0, EDGE), 25);
        }
        Cascadery x = new Cascadery();
        own(x, 0, SIZE, HELD, 5);
        check.due("HELD by the window", x.value(0, SIZE), 50);
        own(x, 0, SPAN, PERCENT, 33);
        check.due("PERCENT of the window", x.value(0, SPAN), 330);
        x.setWidth(0);
        check.due("HELD of nothing", x.value(0, SIZE), 0);
        check.due("PERCENT of nothing", x.value(0, SPAN), 0);
        x.setWidth(9999);
        check.due("PERCENT of the widest window", x.value(0, SPAN), 3299);
    }

    /** 1 below 0, where SIZE and SPAN of 0, and what 0 holds, are a number. */
    private static Cascadery based(int base) {
        Cascadery x = chain(1);
        own(x, 0, SIZE, PX, base);
        own(x, 0, SPAN, PX, base);
        own(x, 0, HOLDS, PLAIN, 1);
        return x;
    }

    private static final int[][] PARTS = {{GAP, EM}, {EDGE, EM}, {SPAN, EM}, {SIZE, EM}, {GAP, TOP}, {EDGE, TOP}, {SPAN, TOP},
        {SIZE, TOP}, {GAP, HELD}, {EDGE, HELD}, {SPAN, HELD}, {SIZE, HELD}, {SPAN, PERCENT}, {SIZE, PERCENT}};

    private void checkParts(int base, int number, int due) {
        for (int[] p : PARTS) {
            Cascadery x = based(base);
            own(x, 1, p[0], p[1], number);
            String what = number + " hundredths of " + base + ", property " + p[0] + ", unit " + p[1];
            check.due(what, x.value(1, p[0]), due);
            check.due("anew, " + what, x.valueAnew(1, p[0]), due);
        }
    }

    /** "Hundredths are cut toward 0." */
    private void cutTowardZero() {
        int[][] rows = {{1, 0}, {99, 0}, {100, 1}, {101, 1}, {199, 1}, {200, 2}, {9999, 99}, {0, 0}};
        for (int[] r : rows) {
            checkParts(1, r[0], r[1]);
            checkParts(1, -r[0], -r[1]);
            checkParts(-1, r[0], -r[1]);
            checkParts(-1, -r[0], r[1]);
        }
        checkParts(33, 3, 0);
        checkParts(34, 3, 1);
        checkParts(-33, 3, 0);
        checkParts(-34, 3, -1);
        checkParts(0, 9999, 0);
    }

    /** "A value that would be below -100000 or above 100000 is that bound." */
    private void boundsOfValues() {
        int[][] rows = {{1001, 9990, 99999}, {1250, 8000, 100000}, {1100, 9091, 100000}, {9999, 9999, 100000},
            {1000, 9999, 99990}, {1111, 9000, 99990}, {1112, 9000, 100000}};
        for (int[] r : rows) {
            checkParts(r[0], r[1], r[2]);
            checkParts(r[0], -r[1], -r[2]);
            checkParts(-r[0], r[1], -r[2]);
            checkParts(-r[0], -r[1], r[2]);
        }
    }

    /** What has become a bound is gone by as such. */
    private void boundBehindBound() {
        for (int sign = -1; sign <= 1; sign += 2) {
            Cascadery x = chain(3);
            own(x, 0, SIZE, PX, sign * 9999);
            own(x, 1, SIZE, EM, 9999);
            check.due("the bound", x.value(1, SIZE), sign * 100000);
            own(x, 2, SIZE, EM, 100);
            check.due("all of the bound", x.value(2, SIZE), sign * 100000);
            own(x, 2, SIZE, EM, 99);
            check.due("less than the bound", x.value(2, SIZE), sign * 99000);
            own(x, 3, GAP, EM, -101);
            check.due("less than the bound the other way", x.value(3, GAP), sign * -99990);
            own(x, 3, GAP, EM, -102);
            check.due("the other bound", x.value(3, GAP), sign * -100000);
            own(x, 2, SIZE, EM, 9999);
            own(x, 3, GAP, EM, 9999);
            check.due("the bound of the bound", x.value(3, GAP), sign * 100000);
        }
    }

    /** A product that an int does not hold is still above, or below, the bound. */
    private void productsThatWrap() {
        for (int sign = -1; sign <= 1; sign += 2) {
            Cascadery x = chain(3);
            own(x, 1, HOLDS, PLAIN, 1);
            own(x, 2, SIZE, PX, sign * 9999);
            own(x, 2, SPAN, EM, 9999);
            own(x, 2, GAP, EM, 9999);
            check.due("SPAN and twice GAP, each at its bound", x.size(1), sign * 300000);
            for (int number : new int[] {9999, 7200, 7158, 7159, 1432, 34, -34, -1432, -7159, -9999}) {
                own(x, 3, GAP, HELD, number);
                check.due("HELD " + number, x.value(3, GAP), number > 0 ? sign * 100000 : sign * -100000);
            }
            own(x, 3, GAP, HELD, 33);
            check.due("HELD 33", x.value(3, GAP), sign * 99000);
            own(x, 3, GAP, HELD, -33);
            check.due("HELD -33", x.value(3, GAP), sign * -99000);
        }
    }

    /** "of the SPAN of the shown parent, AUTO if that is AUTO" */
    private void percentOfAuto() {
        Cascadery x = chain(2);
        own(x, 1, SPAN, PERCENT, 50);
        own(x, 2, SPAN, PERCENT, 50);
        check.due("of AUTO", x.value(1, SPAN), AUTO_VALUE);
        check.due("of AUTO of AUTO", x.value(2, SPAN), AUTO_VALUE);
        own(x, 1, SPAN, PERCENT, 0);
        check.due("nothing of AUTO", x.value(1, SPAN), AUTO_VALUE);
        own(x, 0, SPAN, PX, 0);
        check.due("nothing of nothing", x.value(1, SPAN), 0);
        check.due("not AUTO any more", x.value(2, SPAN), 0);
        own(x, 1, SIZE, PERCENT, 50);
        check.due("SIZE does not go by SPAN", x.value(1, SIZE), 8);
        own(x, 0, SPAN, AUTO, 0);
        check.due("also if that is AUTO", x.value(1, SIZE), 8);
    }

    /** "of a variable 100000 times its unit, plus its number (0 for the unit AUTO), INVALID if it is invalid" */
    private void codesOfVariables() {
        for (int variable = 12; variable <= 14; variable++) {
            for (int unit = PLAIN; unit <= AUTO; unit++) {
                for (int number : new int[] {-9999, -1, 0, 1, 9999}) {
                    Cascadery x = chain(1);
                    int due = unit == AUTO ? 600000 : 100000 * unit + number;
                    own(x, 0, variable, unit, number);
                    check.due("the code", x.value(0, variable), due);
                    check.due("inherited", x.value(1, variable), due);
                    check.due("anew", x.valueAnew(1, variable), due);
                    int other = variable == 14 ? 12 : variable + 1;
                    ownVar(x, 1, other, variable, PX, 5);
                    check.due("by VAR", x.value(1, other), due);
                }
            }
        }
    }

    /** "otherwise the second value; otherwise it is UNSET. If that unit does not suit the property, it is UNSET as well." */
    private void secondUnits() {
        for (int p = 0; p <= 11; p++) {
            for (int unit = NONE; unit <= AUTO; unit++) {
                for (int number : new int[] {-9999, -50, 0, 50, 9999}) {
                    Cascadery x = based(40);
                    Cascadery y = based(40);
                    own(x, 0, TINT, PLAIN, 3);
                    own(y, 0, TINT, PLAIN, 3);
                    boolean isTaken = unit != NONE && suits(p, unit);
                    own(y, 1, p, isTaken ? unit : UNSET, number);
                    ownVar(x, 1, p, 13, unit, number);
                    check.due("second " + unit + " " + number + " for " + p, x.value(1, p), y.value(1, p));
                }
            }
        }
    }

    /** "VAR for another property gives it what the variable has, if that is valid"; the unit may not suit */
    private void unitsFromVariables() {
        for (int p = 0; p <= 11; p++) {
            for (int unit = PLAIN; unit <= AUTO; unit++) {
                for (int number : new int[] {-9999, -50, -49, 0, 50, 9999}) {
                    Cascadery x = based(40);
                    Cascadery y = based(40);
                    own(x, 0, TINT, PLAIN, 3);
                    own(y, 0, TINT, PLAIN, 3);
                    own(y, 1, p, suits(p, unit) ? unit : UNSET, number);
                    own(x, 0, 14, unit, number);
                    // the second value does not matter, whether it suits or not
                    ownVar(x, 1, p, 14, p >= SIZE && p <= EDGE ? PX : PLAIN, 777);
                    check.due("unit " + unit + " with " + number + " for " + p, x.value(1, p), y.value(1, p));
                }
            }
        }
    }

    /** "invalid without one, and with INITIAL"; "otherwise the second value, if there is one; otherwise it is invalid" */
    private void invalidVariables() {
        Cascadery x = chain(1);
        check.due("without any declaration", x.value(1, 12), INVALID);
        own(x, 0, 12, PX, 5);
        own(x, 1, 12, INITIAL, 5);
        check.due("INITIAL", x.value(1, 12), INVALID);
        ownVar(x, 1, 13, 12, NONE, 5);
        check.due("VAR of an invalid one", x.value(1, 13), INVALID);
        ownVar(x, 1, 13, 12, PLAIN, 0);
        check.due("a second value of 0", x.value(1, 13), 0);
        ownVar(x, 1, 14, 13, PX, 9);
        check.due("VAR of a second value", x.value(1, 14), 0);
        own(x, 1, 12, UNSET, 5);
        check.due("not the second value, if there is a first", x.value(1, 14), 100005);
        own(x, 0, 12, INHERIT, 5);
        check.due("INHERIT without a shown parent", x.value(1, 12), INVALID);
        x.declareVar(101, TINT, 12, NONE, 5, false);
        own(x, 0, TINT, PLAIN, 8);
        check.due("UNSET for another property", x.value(1, TINT), 8);
    }

    /** The variables of 1 are declared in all ways of a plain value, and VAR with and without a second value. */
    private void allCircles() {
        for (int ways = 0; ways < 343; ways++) {
            int[] way = {ways % 7, ways / 7 % 7, ways / 49};
            Cascadery x = chain(1);
            for (int v = 0; v < 3; v++) {
                own(x, 0, 12 + v, EM, v);
                if (way[v] == 6) {
                    own(x, 1, 12 + v, PX, 10 + v);
                } else {
                    ownVar(x, 1, 12 + v, 12 + way[v] % 3, way[v] < 3 ? NONE : TOP, 20 + v);
                }
            }
            for (int v = 0; v < 3; v++) {
                int due = needed(v, way);
                check.due("variable " + v + " of way " + ways, x.value(1, 12 + v), due);
                ownVar(x, 1, GAP, 12 + v, PX, 9);
                check.due("for GAP", x.value(1, GAP), gapBy(due));
            }
        }
    }

    /** The GAP that a variable gives, or the second value, 9; EM and TOP go by a SIZE of 16. */
    private static int gapBy(int code) {
        int number = code % 100000;
        return code == INVALID ? 9 : code / 100000 == PX ? number : 16 * number / 100;
    }

    /** "All variables that need themselves, directly or over others, ... are invalid; one that only leads to such is not." */
    private static int needed(int variable, int[] way) {
        int at = variable;
        for (int i = 0; i < 3 && way[at] != 6; i++) {
            at = way[at] % 3;
            if (at == variable) {
                return INVALID;
            }
        }
        if (way[variable] == 6) {
            return 100000 * PX + 10 + variable;
        }
        int first = needed(way[variable] % 3, way);
        return first != INVALID ? first : way[variable] < 3 ? INVALID : 100000 * TOP + 20 + variable;
    }

    /** "through the VARs of the declarations from which they are found, REVERT regarded" */
    private void circlesAndReverts() {
        Cascadery x = chain(1);
        x.select();
        x.sheet(AGENT, NONE, NONE);
        x.sheet(USER, NONE, NONE);
        x.rule(0, 0);
        x.rule(1, 0);
        x.declareVar(0, 12, 13, PX, 1, false);
        x.declareVar(1, 13, 12, PX, 2, false);
        check.due("a circle", x.value(1, 12), INVALID);
        own(x, 1, 12, PX, 3);
        check.due("not with another declaration ahead", x.value(1, 13), 100003);
        check.due("of this element alone", x.value(0, 13), INVALID);
        own(x, 1, 12, REVERT, 3);
        check.due("REVERT leads back to the circle", x.value(1, 13), INVALID);
        x.declare(1, 12, REVERT, 0, false);
        check.due("REVERT to REVERT, too", x.value(1, 13), INVALID);
        x.declare(1, 13, REVERT, 0, false);
        check.due("REVERT to none ends it", x.value(1, 12), 100001);
        x.declareVar(0, 13, 13, PX, 7, false);
        check.due("what needs itself", x.value(1, 13), INVALID);
        check.due("what only leads to it", x.value(1, 12), 100001);
    }

    /** "of a lesser origin than that, AGENT being the least, then USER, then AUTHOR"; "it is UNSET, if there is none" */
    private void reverts() {
        Cascadery x = chain(1);
        x.select();
        for (int origin = AGENT; origin <= AUTHOR; origin++) {
            x.sheet(origin, NONE, NONE);
            x.sheet(origin, NONE, 0);
        }
        for (int r = 0; r < 6; r++) {
            x.rule(r, 0);
            x.declare(r, SHOWN, PLAIN, 10 + r, false);
        }
        check.due("AUTHOR", x.value(1, SHOWN), 14);
        x.declare(4, SHOWN, REVERT, 0, false);
        check.due("not AUTHOR of a lesser layer", x.value(1, SHOWN), 12);
        x.declare(2, SHOWN, REVERT, 0, false);
        check.due("then AGENT", x.value(1, SHOWN), 10);
        x.declare(0, SHOWN, REVERT, 0, false);
        check.due("then UNSET", x.value(1, SHOWN), 1);
        x.undeclare(2, SHOWN);
        check.due("USER of a lesser layer", x.value(1, SHOWN), 13);
        x.undeclare(3, SHOWN);
        check.due("over USER, where there is none", x.value(1, SHOWN), 1);
        x.undeclare(0, SHOWN);
        check.due("to AGENT of a lesser layer", x.value(1, SHOWN), 11);
        own(x, 1, SHOWN, REVERT, 0);
        check.due("own ones are AUTHOR", x.value(1, SHOWN), 11);
        x.undeclare(1, SHOWN);
        check.due("none of AGENT", x.value(1, SHOWN), 1);
        x.declare(5, SHOWN, PLAIN, 9, false);
        check.due("not the other one of AUTHOR", x.value(1, SHOWN), 1);
        check.due("of another element", x.value(0, SHOWN), 1);
    }

    /** REVERT three times: "it is UNSET, if there is none", so it is inherited */
    private void revertsOfInheritedOnes() {
        for (int p : new int[] {TINT, SIZE, 12, 14}) {
            for (int important = 0; important <= 1; important++) {
                Cascadery x = chain(1);
                own(x, 0, p, p == SIZE ? PX : PLAIN, 70);
                x.test(KIND, 1, 0);
                x.select();
                for (int origin = AGENT; origin <= AUTHOR; origin++) {
                    x.sheet(origin, NONE, NONE);
                    x.rule(origin, 0);
                    x.declare(origin, p, REVERT, 5, important == 1 && origin == AUTHOR);
                }
                check.due("of " + p, x.value(1, p), 70);
                x.declare(0, p, INITIAL, 5, false);
                check.due("INITIAL at last, of " + p, x.value(1, p), INITIALS[p]);
                x.declare(0, p, REVERT, 5, true);
                check.due("important at last, of " + p, x.value(1, p), 70);
            }
        }
    }

    /** "of a lesser origin than that, ..., important or not" */
    private void revertsOfImportantOnes() {
        Cascadery x = chain(1);
        x.select();
        for (int origin = AGENT; origin <= AUTHOR; origin++) {
            x.sheet(origin, NONE, NONE);
            x.rule(origin, 0);
            x.rule(origin, 0);
        }
        // the rules 0 and 1 are AGENT, 2 and 3 USER, 4 and 5 AUTHOR; the odd ones are important
        for (int r = 0; r < 6; r++) {
            x.declare(r, SHOWN, PLAIN, 10 + r, r % 2 == 1);
        }
        check.due("important AGENT", x.value(1, SHOWN), 11);
        x.declare(1, SHOWN, REVERT, 0, true);
        check.due("less than AGENT is none", x.value(1, SHOWN), 1);
        x.undeclare(1, SHOWN);
        x.declare(3, SHOWN, REVERT, 0, true);
        check.due("less than USER is AGENT", x.value(1, SHOWN), 10);
        x.undeclare(3, SHOWN);
        x.declare(5, SHOWN, REVERT, 0, true);
        check.due("less than AUTHOR is USER", x.value(1, SHOWN), 12);
        x.declare(3, SHOWN, PLAIN, 13, false);
        check.due("the greater number", x.value(1, SHOWN), 13);
        x.declare(2, SHOWN, PLAIN, 12, true);
        check.due("important USER goes ahead of all", x.value(1, SHOWN), 12);
        x.declare(2, SHOWN, REVERT, 0, true);
        check.due("and leads to AGENT", x.value(1, SHOWN), 10);
    }

    /** "whose HOLDS is above 0"; "NONE if its HOLDS is not above 0" */
    private void holdsAboveZero() {
        for (int holds : new int[] {-9999, -1, 0, 1, 2, 9999}) {
            Cascadery x = chain(1);
            own(x, 0, SPAN, PX, 60);
            own(x, 0, HOLDS, PLAIN, holds);
            own(x, 1, GAP, HELD, 100);
            check.due("size with HOLDS " + holds, x.size(0), holds > 0 ? 60 : NONE);
            check.due("HELD with HOLDS " + holds, x.value(1, GAP), holds > 0 ? 60 : 1000);
            check.due("anew", x.valueAnew(1, GAP), holds > 0 ? 60 : 1000);
        }
    }

    /** "the nearest of the elements above it, by shown parents" */
    private void nearestHolder() {
        Cascadery x = chain(4);
        for (int e = 0; e <= 4; e++) {
            own(x, e, SPAN, PX, 10 * e + 10);
            own(x, e, GAP, HELD, 100);
        }
        for (int holder = 0; holder <= 4; holder++) {
            own(x, holder, HOLDS, PLAIN, 1);
            for (int e = 0; e <= 4; e++) {
                int due = e == 0 ? 1000 : 10 * Math.min(holder, e - 1) + 10;
                check.due("of " + e + " with holders up to " + holder, x.value(e, GAP), due);
            }
        }
        x.make(7);
        x.make(1);
        x.shadow(4);
        x.put(6, 4, 0);
        own(x, 6, GAP, HELD, 100);
        check.due("the host", x.value(6, GAP), 50);
        x.putTop(5, 4, 0);
        own(x, 5, HOLDS, PLAIN, 1);
        own(x, 5, SPAN, PX, 7);
        check.due("the slot is nearer", x.value(6, GAP), 7);
    }

    /** "HELD, ... of the window without one"; ROOMY and TIGHT only "if the element has a holder" */
    private void noHolder() {
        Cascadery x = chain(1);
        own(x, 1, HOLDS, PLAIN, 1);
        own(x, 1, SPAN, PX, 30);
        own(x, 1, GAP, HELD, 100);
        own(x, 0, GAP, HELD, 100);
        x.setWidth(777);
        check.due("not by itself", x.value(1, GAP), 777);
        check.due("not by what is below", x.value(0, GAP), 777);
    }

    /** "Its size is its SPAN" */
    private void sizes() {
        for (int span : new int[] {-9999, -1, 0, 1, 9999}) {
            Cascadery x = chain(1);
            own(x, 0, HOLDS, PLAIN, 1);
            own(x, 0, SPAN, PX, span);
            own(x, 1, SPAN, PX, 44);
            own(x, 1, EDGE, HELD, 100);
            check.due("the size", x.size(0), span);
            check.due("HELD by it", x.value(1, EDGE), span);
        }
        Cascadery x = chain(1);
        own(x, 0, HOLDS, PLAIN, 1);
        own(x, 0, SIZE, PX, 9999);
        own(x, 0, SPAN, EM, 9999);
        check.due("a SPAN at its bound", x.size(0), 100000);
    }

    /** "if that is AUTO, it is the sum, over its shown children, of what SPAN and twice GAP would come to, AUTO as 0" */
    private void autoSizes() {
        Cascadery x = chain(2);
        own(x, 1, HOLDS, PLAIN, 1);
        own(x, 2, HOLDS, PLAIN, 1);
        check.due("without shown children", x.size(2), 0);
        check.due("of AUTO without GAP", x.size(1), 0);
        own(x, 2, GAP, PX, 1);
        check.due("of AUTO with GAP", x.size(1), 2);
        own(x, 2, SPAN, PX, 10);
        check.due("of SPAN and GAP", x.size(1), 12);
        own(x, 2, GAP, PX, -6);
        check.due("below 0", x.size(1), -2);
        own(x, 2, EDGE, PX, 100);
        check.due("EDGE does not count", x.size(1), -2);
        own(x, 2, SHOWN, PLAIN, 0);
        check.due("SHOWN does not matter", x.size(1), -2);
        x.make(1);
        x.put(3, 2, 0);
        own(x, 3, SPAN, PX, 50);
        check.due("not what is deeper", x.size(1), -2);
        check.due("that is the child's", x.size(2), 10);
        own(x, 2, SPAN, AUTO, 0);
        check.due("AUTO as 0, though it is a holder", x.size(1), -12);
        check.due("whose size is another one", x.size(2), 50);
    }

    /** The sum is no value: it has no bounds. */
    private void greatestSum() {
        for (int sign = -1; sign <= 1; sign += 2) {
            Cascadery x = row(29);
            own(x, 0, HOLDS, PLAIN, 1);
            own(x, 0, SIZE, PX, sign * 9999);
            x.select();
            x.sheet(AUTHOR, NONE, NONE);
            x.rule(0, 0);
            x.declare(0, GAP, EM, 9999, false);
            own(x, 0, SPAN, AUTO, 0);
            x.declare(0, SPAN, EM, 9999, false);
            check.due("29 times the most", x.size(0), sign * 29 * 300000);
            own(x, 1, EDGE, HELD, 9999);
            check.due("HELD by the most", x.value(1, EDGE), sign * 100000);
            own(x, 1, EDGE, HELD, 1);
            check.due("one hundredth", x.value(1, EDGE), sign * 87000);
        }
    }

    /** "if no ROOMY or TIGHT held for them, and HELD went by the window", though there is a holder above, too */
    private void freeOfHolders() {
        Cascadery x = chain(2);
        own(x, 0, HOLDS, PLAIN, 1);
        own(x, 0, SPAN, PX, 50);
        own(x, 1, HOLDS, PLAIN, 1);
        own(x, 1, TINT, PLAIN, 6);
        own(x, 1, SIZE, HELD, 10);
        own(x, 2, SPAN, HELD, 10);
        check.due("by the window, not by 0", x.size(1), 100);
        check.due("then by the holder", x.value(2, SPAN), 10);
        own(x, 2, SPAN, EM, 100);
        check.due("the holder's SIZE as it is", x.size(1), 5);
        own(x, 2, SIZE, HELD, 1);
        check.due("its own SIZE by the window", x.size(1), 10);
        own(x, 2, 12, HELD, 20);
        ownVar(x, 2, SPAN, 12, NONE, 0);
        check.due("a variable by the window", x.size(1), 200);
        x.select();
        x.sheet(AUTHOR, NONE, NONE);
        x.rule(0, 0);
        x.declare(0, 12, HELD, 30, true);
        for (int number : new int[] {-9999, 0, 9999}) {
            x.when(0, ROOMY, number);
            check.due("no ROOMY " + number, x.size(1), 200);
            x.when(0, TIGHT, number);
            check.due("no TIGHT " + number, x.size(1), 200);
        }
        x.when(0, KNOWN, 14);
        check.due("other conditions", x.size(1), 300);
        x.when(0, NONE, 0);
        check.due("without a condition", x.size(1), 300);
    }

    /** "but for what hangs on the size of a holder that is AUTO, when one of its shown children was taken out" */
    private void sizeThatStays() {
        Cascadery x = chain(2);
        own(x, 1, HOLDS, PLAIN, 1);
        own(x, 2, SPAN, PX, 70);
        check.due("with the child", x.size(1), 70);
        x.take(2);
        check.due("nothing is marked", x.marked(), 0);
        check.due("without it, but as it was", x.size(1), 70);
        own(x, 0, TINT, PLAIN, 0);
        check.due("behind the next flush", x.size(1), 0);
        x.put(2, 1, 0);
        check.due("put back", x.size(1), 70);
        x.take(2);
        x.setWidth(1000);
        check.due("taken out, and all marked", x.size(1), 0);
    }

    /** "Returns what value() would return, if all values were found anew, without flushing, and without listeners." */
    private void anewWithoutFlush() {
        Cascadery x = chain(1);
        check.due("ahead of the first flush", x.valueAnew(1, SIZE), 16);
        check.due("no flush", x.flushes() + x.restyled() + x.marked(), set(1));
        x.listen(0, TINT, 1, 0);
        x.value(0, 0);
        own(x, 0, TINT, PLAIN, 4);
        check.due("as it will be", x.valueAnew(1, TINT), 4);
        check.due("one flush so far", x.flushes(), 1);
        check.due("still marked", x.marked(), set(0));
        check.due("no listener was told", x.setClass(1, 0, false), false);
        check.due("read", x.value(1, TINT), 4);
        check.due("now it was", x.setClass(1, 0, false), true);
    }

    /** "those left out that have a SHOWN of 0 or are below one that has"; "NONE if none is made, or it is left out" */
    private void leftOut() {
        for (int shown : new int[] {-9999, -1, 0, 1, 9999}) {
            Cascadery x = chain(2);
            x.make(1);
            x.put(3, 0, 1);
            for (int e = 0; e <= 3; e++) {
                own(x, e, STEP, PLAIN, 1);
                own(x, e, MADE, PLAIN, 1);
            }
            own(x, 1, SHOWN, PLAIN, shown);
            check.due("ahead of it", x.made(0), 1);
            check.due("itself with " + shown, x.made(1), shown == 0 ? NONE : 2);
            check.due("below it", x.made(2), shown == 0 ? NONE : 3);
            check.due("behind it", x.made(3), shown == 0 ? 2 : 4);
            own(x, 2, SHOWN, PLAIN, 1);
            check.due("below it, shown itself", x.made(2), shown == 0 ? NONE : 3);
        }
        Cascadery x = loose(2);
        x.make(7);
        x.put(1, 0, 0);
        x.shadow(1);
        x.put(2, 1, 0);
        x.putTop(3, 1, 0);
        own(x, 2, MADE, PLAIN, 1);
        check.due("in a slot", x.made(2), 0);
        own(x, 3, SHOWN, PLAIN, 0);
        check.due("in a slot that is left out", x.made(2), NONE);
        x.setAttribute(2, 1, 5);
        check.due("out of the slot", x.made(2), 0);
    }

    /** "the count becomes RESET, if that is 0 or more, and then STEP more"; "one count, 0 at first" */
    private void resets() {
        Cascadery x = row(2);
        own(x, 1, MADE, PLAIN, 1);
        own(x, 2, MADE, PLAIN, 1);
        check.due("0 at first", x.made(1), 0);
        own(x, 1, STEP, PLAIN, 5);
        check.due("one STEP", x.made(1), 5);
        int[][] rows = {{-9999, 5}, {-1, 5}, {0, 0}, {1, 1}, {9999, 9999}};
        for (int[] r : rows) {
            own(x, 2, RESET, PLAIN, r[0]);
            own(x, 2, STEP, PLAIN, 0);
            check.due("RESET of " + r[0], x.made(2), r[1]);
            own(x, 2, STEP, PLAIN, 9999);
            check.due("and then STEP", x.made(2), r[1] + 9999);
            own(x, 2, STEP, PLAIN, -9999);
            check.due("and then STEP below 0", x.made(2), r[1] - 9999);
        }
        own(x, 0, RESET, PLAIN, 100);
        own(x, 2, RESET, PLAIN, -1);
        own(x, 2, STEP, PLAIN, 1);
        check.due("it goes on from 0's", x.made(2), 106);
    }

    /** "The content that is made for one of them is the count behind it, if its MADE is above 0." */
    private void madeOrNot() {
        for (int made : new int[] {-9999, -1, 0, 1, 2, 9999}) {
            Cascadery x = row(2);
            own(x, 1, STEP, PLAIN, 3);
            own(x, 1, MADE, PLAIN, made);
            own(x, 2, MADE, PLAIN, 1);
            check.due("MADE of " + made, x.made(1), made > 0 ? 3 : NONE);
            check.due("it counts all the same", x.made(2), 3);
        }
    }
}
