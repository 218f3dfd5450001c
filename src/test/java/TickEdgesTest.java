/** The edges of promises 29 and 37 to 39, and of what the document says of TICKS. */
public final class TickEdgesTest extends TestBase {
    private TickEdgesTest() {
        super("TickEdgesTest");
    }

    public static void main(String[] args) {
        TickEdgesTest test = new TickEdgesTest();
        test.ticks();
        test.askedNumbers();
        test.argumentsOfAnimations();
        test.argumentsOfFrames();
        test.frameCounts();
        test.easeAboveZero();
        test.fromBeginningToEnd();
        test.cutTowardZero();
        test.longestTransition();
        test.widestTransition();
        test.autoAtEitherEnd();
        test.firstValues();
        test.endedByEase();
        test.notChanged();
        test.turnedBack();
        test.turnedBackAtOnce();
        test.turnedBackTooLate();
        test.easeOfTheFlush();
        test.playNumbers();
        test.animationAtFirst();
        test.endOfRounds();
        test.turns();
        test.mostRounds();
        test.tenths();
        test.withoutFrameAtTheEnds();
        test.framesAtTheEnds();
        test.valueStandsIn();
        test.beginsAndEnds();
        test.importantOnes();
        test.whichIsSeen();
        test.nothingElse();
        test.check.end();
    }

    /** 1 below 0, with an EASE and the first values. */
    private static Cascadery eased(int ease) {
        Cascadery x = chain(1);
        own(x, 1, EASE, PLAIN, ease);
        own(x, 1, GAP, PX, 0);
        x.value(1, 0);
        return x;
    }

    /** GAP of 1 becomes another number, and a flush goes by. */
    private static void turn(Cascadery x, int gap) {
        own(x, 1, GAP, PX, gap);
        x.value(1, GAP);
    }

    /** "ticks: 1 to 1000"; "Returns how many have passed in all." */
    private void ticks() {
        range("tick", 1, 1000, ARGUMENT, ticks -> new Cascadery().tick(ticks));
        Cascadery x = new Cascadery();
        check.due("one", x.tick(1), 1);
        check.due("and the most", x.tick(1000), 1001);
        check.argument("none", () -> x.tick(0));
        check.due("as before", x.tick(1), 1002);
    }

    /** "property: TINT, SIZE, SPAN, GAP or EDGE"; "IllegalStateException if the element is not in the document" */
    private void askedNumbers() {
        range("seen of", 0, 2, BOUNDS, e -> row(2).seen(e, TINT));
        range("seen", TINT, EDGE, ARGUMENT, p -> row(2).seen(1, p));
        Cascadery x = loose(1);
        check.state("out of the document", () -> x.seen(1, TINT));
        check.argument("out of the document, a wrong property", () -> x.seen(1, SHOWN));
        check.bounds("no element, a wrong property", () -> x.seen(2, SHOWN));
        int[] due = {0, 16, AUTO_VALUE, 0, 0};
        for (int p = TINT; p <= EDGE; p++) {
            check.due("what is seen at first", x.seen(0, p), due[p]);
        }
    }

    /** "animation: 0 to 3"; "length: 1 to 1000"; "rounds: 1 to 100" */
    private void argumentsOfAnimations() {
        range("the animation", 0, 3, ARGUMENT, a -> new Cascadery().animation(a, 1, 1, true));
        range("the length", 1, 1000, ARGUMENT, length -> new Cascadery().animation(0, length, 1, true));
        range("the rounds", 1, 100, ARGUMENT, rounds -> new Cascadery().animation(3, 1, rounds, false));
    }

    /** "property: TINT, SIZE, SPAN, GAP or EDGE"; "tenth: 0 to 10"; "number: -9999 to 9999" */
    private void argumentsOfFrames() {
        range("a frame of", 0, 3, ARGUMENT, a -> new Cascadery().frame(a, TINT, 0, 0));
        range("a frame for", TINT, EDGE, ARGUMENT, p -> new Cascadery().frame(0, p, 0, 0));
        range("a frame at", 0, 10, ARGUMENT, tenth -> new Cascadery().frame(0, TINT, tenth, 0));
        range("a frame with", -9999, 9999, ARGUMENT, number -> new Cascadery().frame(0, TINT, 0, number));
    }

    /** "at most one for each property ... and each tenth"; "Returns how many frames the animation has then." */
    private void frameCounts() {
        Cascadery x = new Cascadery();
        int count = 0;
        for (int p = TINT; p <= EDGE; p++) {
            for (int tenth = 0; tenth <= 10; tenth++) {
                count++;
                check.due("one more", x.frame(3, p, tenth, 1), count);
                check.due("in place of it", x.frame(3, p, tenth, 2), count);
            }
        }
        check.due("all", x.frame(3, EDGE, 10, 3), 55);
        check.due("of another animation", x.frame(0, EDGE, 10, 3), 1);
        x.animation(3, 1000, 100, false);
        check.due("its frames stay", x.frame(3, TINT, 0, 3), 55);
    }

    /** "and its EASE behind the flush is above 0, a transition begins now" */
    private void easeAboveZero() {
        for (int ease : new int[] {-9999, -1, 0, 1, 2, 9999}) {
            Cascadery x = eased(ease);
            turn(x, 100);
            check.due("at once with an EASE of " + ease, x.seen(1, GAP), ease > 0 ? 0 : 100);
            x.tick(1);
            check.due("one tick later", x.seen(1, GAP), ease == 2 ? 50 : ease == 9999 ? 0 : 100);
            check.due("the value", x.value(1, GAP), 100);
        }
    }

    /** "with g ticks gone of n, ... ; with g at n it is over" */
    private void fromBeginningToEnd() {
        for (int n : new int[] {1, 2, 3, 7}) {
            Cascadery x = eased(n);
            turn(x, 30);
            for (int g = 0; g <= n + 1; g++) {
                check.due(g + " of " + n, x.seen(1, GAP), g >= n ? 30 : 30 * g / n);
                x.tick(1);
            }
        }
        Cascadery x = eased(10);
        own(x, 1, PLAY, PLAIN, 0);
        x.frame(0, GAP, 0, 700);
        x.frame(0, GAP, 10, 700);
        x.animation(0, 1000, 100, false);
        x.value(1, 0);
        turn(x, 30);
        x.tick(9);
        check.due("one tick less than all: the transition", x.seen(1, GAP), 700 - 670 * 9 / 10);
        x.tick(1);
        check.due("all: over, so the animation is seen", x.seen(1, GAP), 700);
    }

    /** "the beginning, plus the difference of the end and the beginning times g, divided by n, cut toward 0" */
    private void cutTowardZero() {
        int[][] rows = {{0, 1}, {0, -1}, {1, 0}, {-1, 0}, {-1, 1}, {1, -1}, {5, 3}, {-5, -3}, {-5, 6}};
        for (int[] r : rows) {
            for (int n = 2; n <= 5; n++) {
                Cascadery x = eased(0);
                turn(x, r[0]);
                own(x, 1, EASE, PLAIN, n);
                turn(x, r[1]);
                for (int g = 0; g < n; g++) {
                    int size = Math.abs(r[1] - r[0]) * g / n;
                    check.due(r[0] + " to " + r[1], x.seen(1, GAP), r[1] > r[0] ? r[0] + size : r[0] - size);
                    x.tick(1);
                }
            }
        }
    }

    /** The longest EASE, 9999. */
    private void longestTransition() {
        Cascadery x = eased(9999);
        turn(x, 9999);
        for (int i = 1; i <= 9; i++) {
            x.tick(1000);
            check.due("on its way", x.seen(1, GAP), 1000 * i);
        }
        x.tick(998);
        check.due("one tick to go", x.seen(1, GAP), 9998);
        x.tick(1);
        check.due("over", x.seen(1, GAP), 9999);
    }

    /** From bound to bound with the longest EASE: the product is more than an int holds. */
    private void widestTransition() {
        Cascadery x = eased(9999);
        own(x, 1, SIZE, PX, 9999);
        x.value(1, 0);
        own(x, 1, EASE, PLAIN, 0);
        own(x, 1, GAP, EM, -9999);
        x.value(1, 0);
        own(x, 1, EASE, PLAIN, 9999);
        own(x, 1, GAP, EM, 9999);
        check.due("the lower bound", x.seen(1, GAP), -100000);
        for (int i = 1; i <= 9; i++) {
            x.tick(1000);
            check.due("on its way", x.seen(1, GAP), -100000 + (int) (200000L * 1000 * i / 9999));
        }
        x.tick(998);
        check.due("nearly there", x.seen(1, GAP), -100000 + (int) (200000L * 9998 / 9999));
        x.tick(1);
        check.due("the upper bound", x.seen(1, GAP), 100000);
    }

    /** "from a number to another number"; "or to or from AUTO, one that goes on ends" */
    private void autoAtEitherEnd() {
        Cascadery x = eased(10);
        check.due("AUTO", x.seen(1, SPAN), AUTO_VALUE);
        own(x, 1, SPAN, PX, 50);
        check.due("from AUTO at once", x.seen(1, SPAN), 50);
        own(x, 1, SPAN, PX, 0);
        check.due("from number to number", x.seen(1, SPAN), 50);
        x.tick(5);
        own(x, 1, SPAN, AUTO, 0);
        check.due("to AUTO at once", x.seen(1, SPAN), AUTO_VALUE);
        own(x, 1, SPAN, PX, 50);
        check.due("from AUTO to where the ended one began", x.seen(1, SPAN), 50);
        x.tick(1);
        check.due("none goes on", x.seen(1, SPAN), 50);
        own(x, 1, SPAN, PX, 150);
        x.value(1, 0);
        x.tick(5);
        own(x, 1, SPAN, PX, 50);
        check.due("half way, and back", x.seen(1, SPAN), 100);
        x.tick(4);
        own(x, 1, SPAN, AUTO, 0);
        x.value(1, 0);
        own(x, 1, SPAN, PX, 50);
        check.due("AUTO between", x.seen(1, SPAN), 50);
    }

    /** "and it had values before" */
    private void firstValues() {
        Cascadery x = loose(1);
        own(x, 1, EASE, PLAIN, 10);
        own(x, 1, GAP, PX, 70);
        x.put(1, 0, 0);
        check.due("the first values are seen at once", x.seen(1, GAP), 70);
        own(x, 1, GAP, PX, 170);
        x.value(1, 0);
        x.tick(5);
        check.due("then it eases", x.seen(1, GAP), 120);
        x.take(1);
        own(x, 1, GAP, PX, 70);
        x.put(1, 0, 0);
        check.due("the first values again", x.seen(1, GAP), 70);
        for (int p = TINT; p <= EDGE; p++) {
            Cascadery y = eased(10);
            own(y, 1, SPAN, PX, 5);
            own(y, 1, p, p == TINT ? PLAIN : PX, 40);
            y.value(1, 0);
            own(y, 1, p, p == TINT ? PLAIN : PX, 140);
            y.value(1, 0);
            y.take(1);
            y.put(1, 0, 0);
            check.due("with none going on, of " + p, y.seen(1, p), 140);
            y.tick(1);
            check.due("nor later, of " + p, y.seen(1, p), 140);
        }
    }

    /** "When it is changed with an EASE of 0 or less, ... one that goes on ends" */
    private void endedByEase() {
        for (int ease : new int[] {0, -1, -9999}) {
            Cascadery x = eased(10);
            turn(x, 100);
            x.tick(5);
            own(x, 1, EASE, PLAIN, ease);
            check.due("EASE alone does not end it", x.seen(1, GAP), 50);
            turn(x, 200);
            check.due("changed with an EASE of " + ease, x.seen(1, GAP), 200);
            own(x, 1, EASE, PLAIN, 10);
            x.tick(1);
            check.due("it does not go on", x.seen(1, GAP), 200);
            turn(x, 0);
            x.tick(1);
            check.due("nor is it turned back", x.seen(1, GAP), 180);
        }
    }

    /** "when it is not changed, one that goes on stays" */
    private void notChanged() {
        Cascadery x = eased(10);
        turn(x, 100);
        x.tick(5);
        x.setWidth(5);
        check.due("restyled", x.seen(1, GAP), 50);
        turn(x, 100);
        check.due("declared again", x.seen(1, GAP), 50);
        x.declare(101, GAP, PX, 100, true);
        check.due("important now", x.seen(1, GAP), 50);
        own(x, 1, EDGE, PX, 100);
        check.due("another property", x.seen(1, GAP), 50);
        own(x, 1, EASE, PLAIN, 1);
        check.due("another EASE", x.seen(1, GAP), 50);
        x.tick(4);
        check.due("it still goes on", x.seen(1, GAP), 90);
        for (int p : new int[] {SIZE, SPAN, EDGE}) {
            own(x, 1, p, PX, 8);
        }
        own(x, 1, TINT, PLAIN, 8);
        x.value(1, 0);
        x.tick(1);
        for (int p = TINT; p <= EDGE; p++) {
            check.due("each property has its own", x.seen(1, p), p == GAP ? 100 : 8);
        }
    }

    /** "with so many of these ticks as were gone of that one, of its whole, rounded up, at least 1" */
    private void turnedBack() {
        for (int n : new int[] {1, 2, 3, 7, 10}) {
            for (int g = 0; g < n; g++) {
                for (int ease : new int[] {1, 2, 5, 9, 10}) {
                    Cascadery x = eased(n);
                    turn(x, 1000);
                    if (g > 0) {
                        x.tick(g);
                    }
                    int at = 1000 * g / n;
                    own(x, 1, EASE, PLAIN, ease);
                    turn(x, 0);
                    int ticks = Math.max(1, (ease * g + n - 1) / n);
                    for (int gone = 0; gone <= ticks; gone++) {
                        int due = gone >= ticks ? 0 : at - at * gone / ticks;
                        check.due(g + " of " + n + ", back with " + ease + ", " + gone, x.seen(1, GAP), due);
                        x.tick(1);
                    }
                }
            }
        }
    }

    /** "at least 1": turned back with no tick gone */
    private void turnedBackAtOnce() {
        Cascadery x = eased(10);
        own(x, 1, PLAY, PLAIN, 0);
        x.frame(0, GAP, 0, 777);
        x.frame(0, GAP, 10, 777);
        x.animation(0, 1000, 100, false);
        x.value(1, 0);
        // what is seen at first is the animation; the transition to 40 begins from there, the next one back to there
        turn(x, 40);
        turn(x, 777);
        check.due("from where it was", x.seen(1, GAP), 777);
        x.frame(0, GAP, 0, 5);
        x.frame(0, GAP, 10, 5);
        check.due("the transition goes on", x.seen(1, GAP), 777);
        x.tick(1);
        check.due("for one tick", x.seen(1, GAP), 5);
        own(x, 1, EASE, PLAIN, 1);
        turn(x, 60);
        own(x, 1, EASE, PLAIN, 10);
        turn(x, 5);
        x.frame(0, GAP, 0, 900);
        x.frame(0, GAP, 10, 900);
        check.due("one of one tick, and back: it goes on", x.seen(1, GAP), 5);
        x.tick(1);
        check.due("for one tick again", x.seen(1, GAP), 900);
    }

    /** "if a transition of it was going on, and the new value is the one from which that began" */
    private void turnedBackTooLate() {
        Cascadery x = eased(10);
        turn(x, 100);
        x.tick(10);
        turn(x, 0);
        x.tick(5);
        check.due("it was over: the whole EASE", x.seen(1, GAP), 50);
        turn(x, 99);
        x.tick(5);
        check.due("not just where that began: the whole EASE", x.seen(1, GAP), 50 + 49 / 2);
        turn(x, 50);
        x.tick(5);
        check.due("back to where the last one began: 10 times 5 of 10", x.seen(1, GAP), 50);
        turn(x, 74);
        x.tick(9);
        check.due("that is over, too", x.seen(1, GAP), 50 + 24 * 9 / 10);
    }

    /** "with as many ticks as EASE"; "its EASE behind the flush" */
    private void easeOfTheFlush() {
        Cascadery x = eased(0);
        own(x, 1, EASE, PLAIN, 4);
        turn(x, 100);
        x.tick(1);
        check.due("the new EASE counts", x.seen(1, GAP), 25);
        own(x, 1, EASE, PLAIN, 0);
        turn(x, 300);
        check.due("so does none", x.seen(1, GAP), 300);
        x.declare(100, TINT, PLAIN, 40, false);
        own(x, 0, EASE, PLAIN, 4);
        check.due("EASE is not inherited", x.seen(1, TINT), 40);
        check.due("but counts for 0", x.seen(0, TINT), 0);
    }

    /** "Animations are 0 to 3." "It begins for an element when a flush makes its PLAY that number" */
    private void playNumbers() {
        for (int play : new int[] {-9999, -1, 0, 1, 2, 3, 4, 9999}) {
            Cascadery x = eased(0);
            for (int a = 0; a <= 3; a++) {
                x.frame(a, GAP, 0, 100 + a);
                x.frame(a, GAP, 10, 100 + a);
            }
            check.due("none at first", x.seen(1, GAP), 0);
            own(x, 1, PLAY, PLAIN, play);
            check.due("PLAY " + play, x.seen(1, GAP), play >= 0 && play <= 3 ? 100 + play : 0);
            check.due("of another element", x.seen(0, GAP), 0);
        }
    }

    /** "An animation has a length in ticks, 10 at first, a number of rounds, 1 at first, turns or not, as at first, and frames" */
    private void animationAtFirst() {
        for (int a = 0; a <= 3; a++) {
            Cascadery x = eased(0);
            own(x, 1, PLAY, PLAIN, a);
            check.due("without frames", x.seen(1, GAP), 0);
            x.frame(a, GAP, 10, 100);
            for (int g = 0; g <= 12; g++) {
                check.due("of animation " + a + " after " + g, x.seen(1, GAP), g < 10 ? 10 * g : 0);
                x.tick(1);
            }
            x.animation(a, 10, 3, false);
            check.due("two more rounds, not turned", x.seen(1, GAP), 30);
        }
    }

    /** "it shows as long as the rounds, as they are told when it is asked, are not over by the ticks gone since it began" */
    private void endOfRounds() {
        for (int length : new int[] {1, 3, 10}) {
            for (int rounds : new int[] {1, 2, 3}) {
                Cascadery x = eased(0);
                x.animation(0, length, rounds, false);
                x.frame(0, GAP, 0, 100);
                x.frame(0, GAP, 10, 200);
                own(x, 1, PLAY, PLAIN, 0);
                for (int g = 0; g <= length * rounds + 1; g++) {
                    int due = g < length * rounds ? 100 + 100 * (g % length) / length : 0;
                    check.due(rounds + " rounds of " + length + " after " + g, x.seen(1, GAP), due);
                    x.tick(1);
                }
                x.animation(0, length, rounds + 5, false);
                check.due("more rounds now", x.seen(1, GAP), 100 + 100 * (2 % length) / length);
                x.animation(0, length, rounds, false);
                check.due("over again", x.seen(1, GAP), 0);
            }
        }
    }

    /** "in odd rounds, counted from 0, with n - g in place of g if it turns" */
    private void turns() {
        for (int length : new int[] {1, 2, 3, 10}) {
            Cascadery x = eased(0);
            x.animation(1, length, 4, true);
            x.frame(1, GAP, 0, 100);
            x.frame(1, GAP, 10, 200);
            own(x, 1, PLAY, PLAIN, 1);
            for (int g = 0; g <= 4 * length; g++) {
                int inRound = g % length;
                int at = g / length % 2 == 1 ? length - inRound : inRound;
                check.due(g + " of " + length, x.seen(1, GAP), g == 4 * length ? 0 : 100 + 100 * at / length);
                x.tick(1);
            }
        }
    }

    /** The longest length and the most rounds. */
    private void mostRounds() {
        Cascadery x = eased(0);
        x.animation(2, 1000, 100, true);
        x.frame(2, GAP, 0, -9999);
        x.frame(2, GAP, 10, 9999);
        own(x, 1, PLAY, PLAIN, 2);
        check.due("the beginning", x.seen(1, GAP), -9999);
        for (int i = 0; i < 99; i++) {
            x.tick(1000);
        }
        check.due("the last round, turned", x.seen(1, GAP), 9999);
        x.tick(999);
        check.due("its last tick", x.seen(1, GAP), -9999 + 19998 / 1000);
        x.tick(1);
        check.due("over", x.seen(1, GAP), 0);
    }

    /** "the tenths gone are 10 g / n, exactly; ... the last frame that is not behind, and ... the first frame behind it" */
    private void tenths() {
        int[] numbers = {0, 7, -3, 40, 41, 41, 0, 1000, -1000, 2, 90};
        for (int length : new int[] {1, 3, 7, 10, 20, 33}) {
            Cascadery x = eased(0);
            x.animation(0, length, 1, false);
            for (int tenth = 0; tenth <= 10; tenth++) {
                x.frame(0, GAP, tenth, numbers[tenth]);
            }
            own(x, 1, PLAY, PLAIN, 0);
            for (int g = 0; g < length; g++) {
                int tenth = 10 * g / length;
                int rest = 10 * g - tenth * length;
                int due = numbers[tenth] + (numbers[tenth + 1] - numbers[tenth]) * rest / length;
                check.due(g + " of " + length, x.seen(1, GAP), due);
                x.tick(1);
            }
        }
    }

    /** "where there is none, the value of the property itself stands at the tenth 0, or 10" */
    private void withoutFrameAtTheEnds() {
        for (int tenth = 0; tenth <= 10; tenth++) {
            Cascadery x = eased(0);
            turn(x, 1000);
            x.animation(0, 10, 2, true);
            x.frame(0, GAP, tenth, 0);
            own(x, 1, PLAY, PLAIN, 0);
            for (int g = 0; g < 20; g++) {
                int at = g < 10 ? g : 20 - g;
                int due = at < tenth ? 1000 - 1000 * at / tenth : at == tenth ? 0 : 1000 * (at - tenth) / (10 - tenth);
                check.due("a frame at " + tenth + ", after " + g, x.seen(1, GAP), due);
                x.tick(1);
            }
        }
    }

    /** Frames at 0 and 10 stand in the way of the value itself; "cut toward 0 from the former" */
    private void framesAtTheEnds() {
        Cascadery x = eased(0);
        turn(x, 5000);
        x.animation(0, 10, 2, true);
        x.frame(0, GAP, 0, 8);
        own(x, 1, PLAY, PLAIN, 0);
        check.due("just at 0", x.seen(1, GAP), 8);
        x.frame(0, GAP, 10, -7);
        int[] due = {8, 7, 5, 4, 2, 1, -1, -2, -4, -5, -7, -5, -4, -2, -1, 1, 2, 4, 5, 7};
        for (int g = 0; g < 20; g++) {
            check.due("after " + g, x.seen(1, GAP), due[g]);
            x.tick(1);
        }
        check.due("over", x.seen(1, GAP), 5000);
    }

    /** "AUTO counts as 0"; "the value of the property itself", as it is now */
    private void valueStandsIn() {
        Cascadery x = eased(0);
        x.frame(0, SPAN, 5, 100);
        own(x, 1, PLAY, PLAIN, 0);
        check.due("AUTO at 0", x.seen(1, SPAN), 0);
        x.tick(4);
        check.due("from AUTO", x.seen(1, SPAN), 80);
        own(x, 1, SPAN, PX, 50);
        check.due("from a number", x.seen(1, SPAN), 90);
        x.tick(5);
        check.due("to a number", x.seen(1, SPAN), 60);
        own(x, 1, SPAN, AUTO, 0);
        check.due("to AUTO", x.seen(1, SPAN), 20);
        x.tick(1);
        check.due("over", x.seen(1, SPAN), AUTO_VALUE);
    }

    /** "and ends when PLAY becomes another one" */
    private void beginsAndEnds() {
        Cascadery x = eased(0);
        x.frame(0, GAP, 10, 100);
        x.frame(1, GAP, 10, 200);
        own(x, 1, PLAY, PLAIN, 0);
        x.tick(3);
        check.due("it begins with the flush", x.seen(1, GAP), 0);
        x.tick(3);
        own(x, 1, PLAY, PLAIN, 0);
        check.due("the same number: it goes on", x.seen(1, GAP), 30);
        own(x, 1, PLAY, PLAIN, 1);
        check.due("another one begins", x.seen(1, GAP), 0);
        x.tick(2);
        check.due("it goes on", x.seen(1, GAP), 40);
        own(x, 1, PLAY, PLAIN, -1);
        x.value(1, 0);
        own(x, 1, PLAY, PLAIN, 1);
        check.due("ended between, so it begins anew", x.seen(1, GAP), 0);
        x.tick(2);
        own(x, 1, PLAY, PLAIN, -1);
        own(x, 1, PLAY, PLAIN, 1);
        check.due("no flush between, so it goes on", x.seen(1, GAP), 40);
        x.tick(8);
        check.due("over", x.seen(1, GAP), 0);
        own(x, 1, PLAY, PLAIN, 1);
        check.due("over, though declared again", x.seen(1, GAP), 0);
    }

    /** "and the declaration from which the value was found is not important" */
    private void importantOnes() {
        Cascadery x = eased(0);
        x.frame(0, GAP, 0, 100);
        x.frame(0, TINT, 0, 100);
        own(x, 1, PLAY, PLAIN, 0);
        check.due("without a declaration", x.seen(1, TINT), 100);
        x.declare(100, TINT, PLAIN, 4, true);
        check.due("inherited from an important one", x.seen(1, TINT), 100);
        x.declare(101, GAP, PX, 3, true);
        check.due("important", x.seen(1, GAP), 3);
        check.due("of another property", x.seen(1, TINT), 100);
        x.declare(101, GAP, REVERT, 3, true);
        check.due("REVERT to none", x.seen(1, GAP), 100);
        x.declareVar(101, GAP, 12, PX, 6, true);
        check.due("an important VAR", x.seen(1, GAP), 6);
        x.declareVar(101, GAP, 12, PX, 6, false);
        x.declare(101, 12, PX, 9, true);
        check.due("VAR of an important variable", x.seen(1, GAP), 100);
        x.declare(101, GAP, UNSET, 6, true);
        check.due("an important UNSET", x.seen(1, GAP), 0);
    }

    /** "by its transition, if one goes on; otherwise by the animation ...; otherwise the value" */
    private void whichIsSeen() {
        Cascadery x = eased(4);
        x.animation(0, 8, 1, false);
        x.frame(0, GAP, 0, 500);
        x.frame(0, GAP, 10, 500);
        own(x, 1, PLAY, PLAIN, 0);
        check.due("the animation", x.seen(1, GAP), 500);
        check.due("none without frames", x.seen(1, EDGE), 0);
        turn(x, 100);
        x.tick(1);
        check.due("the transition", x.seen(1, GAP), 400);
        own(x, 1, PLAY, PLAIN, -1);
        check.due("whatever PLAY is", x.seen(1, GAP), 400);
        own(x, 1, PLAY, PLAIN, 0);
        x.value(1, 0);
        x.tick(3);
        check.due("the animation, which began anew", x.seen(1, GAP), 500);
        x.tick(4);
        check.due("its last tick", x.seen(1, GAP), 500);
        x.tick(1);
        check.due("the value", x.seen(1, GAP), 100);
    }

    /** "Nothing but what is seen hangs on transitions and animations." */
    private void nothingElse() {
        Cascadery x = eased(10);
        own(x, 1, HOLDS, PLAIN, 1);
        own(x, 1, SPAN, PX, 10);
        x.frame(0, TINT, 0, 99);
        x.frame(0, SIZE, 0, 99);
        own(x, 1, PLAY, PLAIN, 0);
        x.value(1, 0);
        own(x, 1, SPAN, PX, 20);
        own(x, 1, EDGE, EM, 100);
        check.due("the value", x.value(1, SPAN), 20);
        check.due("the size", x.size(1), 20);
        check.due("what is reckoned from SIZE", x.value(1, EDGE), 16);
        check.due("what is seen", x.seen(1, SIZE) * 1000 + x.seen(1, SPAN), 99010);
        x.make(1);
        x.put(2, 1, 0);
        check.due("what is inherited", x.seen(2, TINT) * 100 + x.seen(2, SIZE), 16);
        int flushes = x.flushes();
        x.tick(5);
        check.due("ticks mark nothing", x.marked(), 0);
        x.seen(1, SPAN);
        check.due("and flush nothing", x.flushes(), flushes);
    }
}
