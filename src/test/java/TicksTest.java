/** Promises 29 and 37 to 39: ticks, transitions, animations and their frames, and what is seen. */
public final class TicksTest extends TestBase {
    private TicksTest() {
        super("TicksTest");
    }

    public static void main(String[] args) {
        TicksTest test = new TicksTest();
        test.wrongArguments();
        test.transition();
        test.turnedBack();
        test.endings();
        test.leaving();
        test.frames();
        test.rounds();
        test.plays();
        test.both();
        test.check.end();
    }

    private static Cascadery eased(int ease) {
        Cascadery x = new Cascadery();
        x.make(1);
        x.put(1, 0, 0);
        own(x, EASE, PLAIN, ease);
        own(x, GAP, PX, 0);
        x.value(1, 0);
        return x;
    }

    private static void own(Cascadery x, int property, int unit, int number) {
        x.declare(101, property, unit, number, false);
    }

    private void wrongArguments() {
        Cascadery x = new Cascadery();
        x.make(0);
        int least = Integer.MIN_VALUE;
        int most = Integer.MAX_VALUE;
        for (int wrong : new int[] {0, -1, 1001, least, most}) {
            check.argument("tick " + wrong, () -> x.tick(wrong));
            check.argument("length " + wrong, () -> x.animation(0, wrong, 1, false));
            check.argument("rounds " + wrong, () -> x.animation(0, 1, wrong == 1001 ? 101 : wrong, false));
        }
        for (int wrong : new int[] {-1, 4, least, most}) {
            check.argument("animation " + wrong, () -> x.animation(wrong, 1, 1, false));
            check.argument("frame of " + wrong, () -> x.frame(wrong, 0, 0, 0));
            check.argument("property " + wrong, () -> x.frame(0, wrong == 4 ? 5 : wrong, 0, 0));
            check.argument("tenth " + wrong, () -> x.frame(0, 0, wrong == 4 ? 11 : wrong, 0));
            check.argument("number " + wrong, () -> x.frame(0, 0, 0, wrong == 4 ? 10000 : wrong == -1 ? -10000 : wrong));
            check.argument("seen of " + wrong, () -> x.seen(1, wrong == 4 ? 5 : wrong));
            check.bounds("seen " + wrong, () -> x.seen(wrong, 99));
        }
        check.state("seen out of the document", () -> x.seen(1, 0));
        check.due("ticks", x.tick(1), 1);
        check.due("in all", x.tick(1000), 1001);
        x.animation(3, 1000, 100, true);
        check.due("frames", x.frame(3, SIZE, 0, 9999), 1);
        check.due("of another property", x.frame(3, GAP, 0, -9999), 2);
        check.due("of another tenth", x.frame(3, GAP, 10, -9999), 3);
        check.due("in place of one", x.frame(3, GAP, 0, 5), 3);
        check.due("of another animation", x.frame(2, GAP, 0, 5), 1);
        x.animation(3, 1, 1, false);
        check.due("they stay", x.frame(3, GAP, 10, 0), 3);
        check.due("none of that flushed", x.flushes(), 0);
    }

    private void transition() {
        Cascadery x = eased(7);
        check.due("the first values are there at once", x.seen(1, GAP), 0);
        own(x, GAP, PX, 100);
        x.tick(3);
        check.due("it begins with the flush, not with the edit", x.seen(1, GAP), 0);
        check.due("the value is there at once", x.value(1, GAP), 100);
        int[] due = {14, 28, 42, 57, 71, 85, 100, 100};
        for (int i = 0; i < due.length; i++) {
            x.tick(1);
            check.due("after " + (i + 1), x.seen(1, GAP), due[i]);
        }
        own(x, GAP, PX, -1);
        x.value(1, 0);
        x.tick(1);
        check.due("cut toward 0: 100 - 14", x.seen(1, GAP), 86);
        x.setWidth(5);
        x.value(1, 0);
        x.tick(1);
        check.due("not changed, so it goes on", x.seen(1, GAP), 100 - 28);
        own(x, GAP, PX, 200);
        x.value(1, 0);
        x.tick(1);
        check.due("from what was seen", x.seen(1, GAP), 72 + 128 / 7);
        own(x, EASE, PLAIN, 2);
        x.value(1, 0);
        x.tick(1);
        check.due("another EASE does not matter", x.seen(1, GAP), 72 + 256 / 7);
        check.due("other properties", x.seen(1, SIZE), 16);
        x.declare(100, TINT, PLAIN, 50, false);
        x.value(1, 0);
        x.tick(1);
        check.due("inherited values ease, too", x.seen(1, TINT), 25);
        check.due("not without EASE", x.seen(0, TINT), 50);
    }

    private void turnedBack() {
        Cascadery x = eased(10);
        own(x, GAP, PX, 90);
        x.value(1, 0);
        x.tick(3);
        own(x, EASE, PLAIN, 7);
        own(x, GAP, PX, 0);
        check.due("at 27", x.seen(1, GAP), 27);
        // 7 ticks times 3 of 10, rounded up: 3
        x.tick(1);
        check.due("18", x.seen(1, GAP), 18);
        own(x, GAP, PX, 27);
        x.value(1, 0);
        x.tick(1);
        // back to where that began: 7 times 1 of 3, rounded up: 3
        check.due("18 + 3", x.seen(1, GAP), 21);
        own(x, GAP, PX, 18);
        x.value(1, 0);
        own(x, GAP, PX, 21);
        x.value(1, 0);
        check.due("no tick gone: one tick", x.seen(1, GAP), 21);
        x.tick(1);
        own(x, GAP, PX, 500);
        check.due("it is over", x.seen(1, GAP), 21);
        x.tick(7);
        own(x, GAP, PX, 21);
        x.value(1, 0);
        x.tick(1);
        check.due("one that is over does not count", x.seen(1, GAP), 500 - 479 / 7);
    }

    private void endings() {
        Cascadery x = eased(10);
        own(x, SPAN, PX, 40);
        check.due("from AUTO at once", x.seen(1, SPAN), 40);
        own(x, SPAN, PX, 80);
        x.value(1, 0);
        x.tick(5);
        check.due("half", x.seen(1, SPAN), 60);
        own(x, SPAN, AUTO, 0);
        check.due("to AUTO at once", x.seen(1, SPAN), Cascadery.AUTO_VALUE);
        own(x, SPAN, PX, 80);
        check.due("it has ended", x.seen(1, SPAN), 80);
        own(x, SPAN, PX, 100);
        x.value(1, 0);
        own(x, SPAN, PX, 120);
        own(x, EASE, PLAIN, 0);
        check.due("an EASE of 0 ends it", x.seen(1, SPAN), 120);
        own(x, EASE, PLAIN, 10);
        own(x, SPAN, PX, 130);
        x.value(1, 0);
        x.tick(5);
        own(x, EASE, PLAIN, 0);
        own(x, SPAN, PX, 120);
        check.due("also back to where it began", x.seen(1, SPAN), 120);
        own(x, SPAN, PX, 140);
        own(x, EASE, PLAIN, -1);
        check.due("as one below 0", x.seen(1, SPAN), 140);
        own(x, SPAN, PX, 150);
        own(x, EASE, PLAIN, 1);
        check.due("the EASE behind the flush counts", x.seen(1, SPAN), 140);
        x.tick(1);
        check.due("over", x.seen(1, SPAN), 150);
        own(x, Cascadery.STEP, PLAIN, 3);
        check.due("other properties do not ease", x.value(1, Cascadery.STEP), 3);
    }

    private void leaving() {
        Cascadery x = eased(10);
        own(x, GAP, PX, 100);
        x.value(1, 0);
        x.tick(5);
        x.take(1);
        x.put(1, 0, 0);
        check.due("values for the first time", x.seen(1, GAP), 100);
        own(x, GAP, PX, 0);
        x.value(1, 0);
        x.tick(5);
        check.due("then they ease again", x.seen(1, GAP), 50);
        x.frame(0, TINT, 10, 100);
        own(x, PLAY, PLAIN, 0);
        x.value(1, 0);
        x.tick(5);
        check.due("an animation", x.seen(1, TINT), 50);
        x.take(1);
        x.put(1, 0, 0);
        check.due("begins anew", x.seen(1, TINT), 0);
    }

    private void frames() {
        Cascadery x = eased(0);
        x.declare(100, TINT, PLAIN, 10, false);
        x.animation(1, 10, 1, false);
        own(x, PLAY, PLAIN, 1);
        x.value(1, 0);
        x.tick(3);
        check.due("without frames", x.seen(1, TINT), 10);
        x.frame(1, TINT, 5, 21);
        check.due("from the value at 0: 10 + 11 * 3 / 5", x.seen(1, TINT), 16);
        x.tick(4);
        check.due("to the value at 10: 21 - 11 * 2 / 5", x.seen(1, TINT), 17);
        x.frame(1, TINT, 7, 2);
        check.due("just at a frame", x.seen(1, TINT), 2);
        x.frame(1, TINT, 8, 1000);
        check.due("still", x.seen(1, TINT), 2);
        x.animation(1, 20, 1, false);
        check.due("with the length of now: 10 + 11 * 3.5 / 5", x.seen(1, TINT), 17);
        x.tick(8);
        check.due("between frames, cut toward 0: 2 + 998 / 2", x.seen(1, TINT), 501);
        x.frame(1, SPAN, 10, 30);
        check.due("AUTO counts as 0", x.seen(1, SPAN), 22);
        x.tick(5);
        check.due("over", x.seen(1, SPAN), Cascadery.AUTO_VALUE);
        check.due("over for all", x.seen(1, TINT), 10);
        check.due("the value is not touched", x.value(1, TINT), 10);
    }

    private void rounds() {
        Cascadery x = eased(0);
        x.animation(2, 4, 3, true);
        x.frame(2, GAP, 0, 100);
        x.frame(2, GAP, 10, 200);
        own(x, PLAY, PLAIN, 2);
        int[] turned = {100, 125, 150, 175, 200, 175, 150, 125, 100, 125, 150, 175, 0};
        for (int i = 0; i < turned.length; i++) {
            check.due("turned after " + i, x.seen(1, GAP), turned[i]);
            x.tick(1);
        }
        x.animation(2, 4, 5, false);
        check.due("rounds as they are told now", x.seen(1, GAP), 125);
        int[] plain = {150, 175, 100, 125, 150, 175, 0};
        for (int i = 0; i < plain.length; i++) {
            x.tick(1);
            check.due("not turned after " + i, x.seen(1, GAP), plain[i]);
        }
        x.animation(2, 1, 100, true);
        check.due("of one tick, even round", x.seen(1, GAP), 100);
        x.tick(1);
        check.due("odd round", x.seen(1, GAP), 200);
    }

    private void plays() {
        Cascadery x = eased(0);
        x.animation(3, 10, 9, false);
        x.frame(3, TINT, 10, 100);
        x.frame(0, TINT, 10, 200);
        x.frame(0, TINT, 0, 20);
        own(x, PLAY, PLAIN, 3);
        x.tick(4);
        check.due("it begins with the flush", x.seen(1, TINT), 0);
        x.tick(4);
        check.due("on its way", x.seen(1, TINT), 40);
        x.setWidth(8);
        check.due("PLAY stays, so it goes on", x.seen(1, TINT), 40);
        own(x, PLAY, PLAIN, 0);
        check.due("another one", x.seen(1, TINT), 20);
        own(x, PLAY, PLAIN, 3);
        x.value(1, 0);
        x.tick(2);
        check.due("it began anew", x.seen(1, TINT), 20);
        own(x, PLAY, PLAIN, 4);
        check.due("there is no 4", x.seen(1, TINT), 0);
        own(x, PLAY, PLAIN, -9999);
        check.due("nor -9999", x.seen(1, TINT), 0);
        own(x, PLAY, PLAIN, 3);
        x.value(1, 0);
        x.tick(5);
        x.declare(101, TINT, PLAIN, 60, true);
        check.due("not with an important declaration", x.seen(1, TINT), 60);
        x.declare(101, TINT, Cascadery.REVERT, 60, true);
        check.due("REVERT is not where the value is found", x.seen(1, TINT), 50);
        x.declare(101, TINT, Cascadery.INHERIT, 60, true);
        check.due("INHERIT is", x.seen(1, TINT), 0);
    }

    private void both() {
        Cascadery x = eased(10);
        x.animation(0, 10, 9, false);
        x.frame(0, GAP, 10, 1000);
        own(x, PLAY, PLAIN, 0);
        x.value(1, 0);
        x.tick(5);
        check.due("the animation", x.seen(1, GAP), 500);
        own(x, GAP, PX, 100);
        check.due("the transition from what was seen", x.seen(1, GAP), 500);
        x.tick(4);
        check.due("goes ahead of the animation", x.seen(1, GAP), 340);
        x.tick(6);
        check.due("which is seen again", x.seen(1, GAP), 100 + 900 / 2);
        x.declare(101, GAP, PX, 0, true);
        check.due("transitions go with important ones, too", x.seen(1, GAP), 550);
        x.tick(5);
        check.due("half way", x.seen(1, GAP), 275);
        x.tick(5);
        check.due("no animation", x.seen(1, GAP), 0);
    }
}
