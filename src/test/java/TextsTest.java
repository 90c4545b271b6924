/** Promises 12 to 16: the buffer, working through a row of days, and undo. */
public final class TextsTest {
    private static void promise12Append() {
        SlateRoof roof = new SlateRoof();
        Check.same("append: first", roof.append(33), 1);
        Check.same("append: second", roof.append(126), 2);
        Check.same("append: saves nothing", roof.count(18), 0);
        Check.badArgument("append(32)", roof, () -> roof.append(32));
        Check.badArgument("append(127)", roof, () -> roof.append(127));
        Check.badArgument("append(100 + 65536)", roof, () -> roof.append(100 + 65536));
        Check.badArgument("append(-1)", roof, () -> roof.append(-1));
        for (int length = 3; length <= 60; length++) {
            Check.same("append: " + length, roof.append('d'), length);
        }
        Check.badState("append: full", roof, () -> roof.append('d'));
        Check.badArgument("append: code first", roof, () -> roof.append(32));
        Check.same("append: 60", roof.clearBuffer(), 60);
        Check.same("append: from the begin", roof.append('d'), 1);
    }

    private static void promise13ClearBuffer() {
        SlateRoof roof = new SlateRoof();
        Check.same("clearBuffer: empty", roof.clearBuffer(), 0);
        Setup.write(roof, "x1");
        Check.same("clearBuffer: two", roof.clearBuffer(), 2);
        Check.same("clearBuffer: cleared", roof.clearBuffer(), 0);
        Check.same("clearBuffer: saves nothing", roof.count(18), 0);
        roof.append('d');
        Check.same("clearBuffer: the old text is gone", roof.firstError(), 1);
    }

    private static void firstError(String text, int due) {
        SlateRoof roof = new SlateRoof();
        Setup.write(roof, text);
        Check.same("firstError of " + text, roof.firstError(), due);
        Check.same("firstError changes nothing in " + text, roof.clearBuffer(), text.length());
    }

    private static void promise14FirstError() {
        firstError("", 0);
        firstError("d", 1);
        firstError("drs", 3);
        firstError("d2r9s99", 7);
        firstError("d10s19r20", 9);
        firstError("d1", 2);
        firstError("d1r", 2);
        firstError("d0", 1);
        firstError("d02", 1);
        firstError("2d", 0);
        firstError("1", 0);
        firstError("d100", 3);
        firstError("d999", 3);
        firstError("d25r", 4);
        firstError("x", 0);
        firstError("dx2", 1);
        firstError("d2x", 2);
        firstError("d12x", 3);
        firstError("d1x", 2);
        firstError("D", 0);
        firstError("d/", 1);
        firstError("d:", 1);
        firstError("d99d99d99", 9);
        firstError("dd1dd0", 3);
        firstError("d99".repeat(20), 60);
        firstError("d99".repeat(19) + "rs1", 60);
        firstError("d99".repeat(19) + "rs0", 59);
    }

    private static void badRow(String text) {
        SlateRoof roof = new SlateRoof();
        Setup.write(roof, text);
        Check.badArgument("work: row " + text, roof, roof::work);
        Check.same("work: the bad text stays " + text, roof.clearBuffer(), text.length());
    }

    private static void promise15Rows() {
        badRow("");
        badRow("d1");
        badRow("d2r1");
        badRow("d0");
        badRow("2");
        badRow("dd100");
        badRow("dx");
        SlateRoof roof = new SlateRoof();
        Check.same("work: no slates", Setup.work(roof, "dr3s10"), 0);
        Check.same("work: days", roof.count(7), 14);
        Check.same("work: damp", roof.count(9), 2);
        Check.same("work: the buffer is cleared", roof.clearBuffer(), 0);
        Check.same("work: one saved state", roof.count(18), 1);
        Setup.work(roof, "d2");
        Check.same("work: dried", roof.count(9), 0);
        Setup.write(roof, "d99d99d3");
        Check.badState("work: 201 days", roof, roof::work);
        Check.same("work: the text stays", roof.clearBuffer(), 8);
        Setup.work(roof, "d99s99d2");
        Check.same("work: 200 days", roof.count(7), 216);
        Setup.write(roof, "d99".repeat(20));
        Check.badState("work: 1980 days", roof, roof::work);
        Setup.write(roof, "d99".repeat(19) + "d1");
        Check.badArgument("work: the row first", roof, roof::work);
    }

    private static void promise15Thousand() {
        SlateRoof roof = new SlateRoof();
        for (int time = 0; time < 4; time++) {
            Setup.work(roof, "d99d99d2");
        }
        Setup.work(roof, "d99d97");
        Check.same("work: 996", roof.count(7), 996);
        Setup.write(roof, "d5");
        Check.badState("work: 1001", roof, roof::work);
        Setup.work(roof, "d3");
        roof.append('d');
        Check.same("work: 1000", roof.work(), 0);
        roof.append('d');
        Check.badState("work: after 1000", roof, roof::work);
    }

    private static void promise15Laying() {
        SlateRoof roof = Setup.small();
        Setup.buyWhole(roof, 24, 9);
        Check.same("work: all in one day", Setup.work(roof, "d"), 9);
        Check.same("work: done", roof.count(6), 1);
        Check.same("work: effort", roof.count(8), 11);
        Check.same("work: a done roof", Setup.work(roof, "d9"), 0);
        Check.same("work: no course on it", roof.count(2), 2);
        roof.undo();
        roof.undo();
        Check.same("work: undone as one call", roof.count(2), 0);
        Check.same("work: undone, stock", roof.slates(24, 0), 9);
        Check.same("work: undone, day", roof.count(7), 0);
        roof.set(1, 5);
        Check.same("work: five", Setup.work(roof, "d"), 5);
        Check.same("work: four more", Setup.work(roof, "d"), 4);
        roof.undo();
        Check.same("work: two days", Setup.work(roof, "d2"), 4);
    }

    private static void promise15CourseWithoutEffort() {
        SlateRoof roof = Setup.small();
        Setup.buyWhole(roof, 24, 9);
        roof.set(1, 4);
        Check.same("work: a course", Setup.work(roof, "d"), 4);
        Check.same("work: the next one takes no effort", roof.count(2), 2);
        Check.same("work: but it is empty", roof.count(5), 5);
    }

    private static void promise15WeatherFirst() {
        SlateRoof roof = Setup.small();
        Setup.buyWhole(roof, 24, 9);
        Check.same("work: wet", Setup.work(roof, "r"), 0);
        Check.same("work: still damp", Setup.work(roof, "d"), 0);
        Check.same("work: dry from this day on", Setup.work(roof, "d"), 9);
        roof.undo();
        roof.cover(true);
        Check.same("work: under the cover", Setup.work(roof, "d9"), 0);
        roof.cover(false);
        Check.same("work: a new drying", roof.set(2, 1), 2);
        Check.same("work: rain, then dry", Setup.work(roof, "rd"), 9);
    }

    private static void promise15Lengths() {
        SlateRoof roof = new SlateRoof();
        roof.begin(100, 4);
        Setup.buyWhole(roof, 22, 3);
        Setup.buyWhole(roof, 18, 4);
        Setup.buyWhole(roof, 16, 4);
        Setup.buyWhole(roof, 12, 5);
        Check.same("work: lengths", Setup.work(roof, "d"), 9);
        Check.same("work: 22 are too few", roof.courseOf(0, 0), 18);
        Check.same("work: 16 are too few for 5 places", roof.courseOf(1, 0), 12);
        Check.same("work: no longer ones any more", roof.count(2), 2);
        Setup.buyWhole(roof, 12, 3);
        Setup.buyWhole(roof, 24, 30);
        Check.same("work: none of the right length", Setup.work(roof, "d"), 0);
        Setup.buyWhole(roof, 12, 1);
        Check.same("work: four are enough", Setup.work(roof, "d"), 4);
    }

    /** Courses of 24, 16 and 16 with places free in each of them, and none of 24 in stock. */
    private static SlateRoof threeWithGaps() {
        SlateRoof roof = new SlateRoof();
        roof.begin(100, 4);
        Setup.buyWhole(roof, 24, 4);
        Setup.buyWhole(roof, 16, 10);
        roof.course(24);
        roof.lay(4);
        roof.course(16);
        roof.lay(5);
        roof.pass(2);
        roof.pass(0);
        roof.pass(0);
        roof.mend(1, 1);
        roof.course(16);
        roof.lay(4);
        Check.same("gaps: day 4, places 4 and 1", roof.pass(2), 1);
        roof.pass(0);
        roof.pass(0);
        return roof;
    }

    private static void promise15Mending() {
        SlateRoof roof = threeWithGaps();
        Check.same("gaps: below", roof.courseOf(0, 5), 3);
        Check.same("gaps: in the middle", roof.courseOf(1, 5), 1);
        Check.same("gaps: day 7, places 2 and 4", roof.pass(2), 2);
        Setup.buyWhole(roof, 16, 2);
        Check.same("work: only in the last course", Setup.work(roof, "d2"), 1);
        Check.same("work: not in the middle", roof.courseOf(1, 5), 1);
        Check.same("work: the last is full", roof.courseOf(2, 5), SlateRoof.NONE);
        Setup.buyWhole(roof, 16, 6);
        Check.same("work: a course goes on meanwhile", Setup.work(roof, "d"), 5);
        Setup.buyWhole(roof, 24, 1);
        Check.same("work: the first gap opens the way", Setup.work(roof, "d"), 3);
        Check.same("work: no gap is left below", roof.count(5), 0);
    }

    private static void promise15MendingFirst() {
        SlateRoof roof = threeWithGaps();
        roof.pass(2);
        roof.pass(0);
        roof.set(1, 4);
        Setup.buyWhole(roof, 24, 1);
        Setup.buyWhole(roof, 16, 9);
        Check.same("work: 3 for mending, 1 for laying", Setup.work(roof, "d"), 2);
        Check.same("work: the first is mended", roof.courseOf(0, 5), SlateRoof.NONE);
        Check.same("work: then one is laid", roof.courseOf(2, 5), SlateRoof.NONE);
        Check.same("work: no effort is left", roof.count(8), 0);
        Check.same("work: the middle waits", roof.courseOf(1, 6), 4);
        roof.undo();
        roof.set(1, 2);
        Check.same("work: too little for mending, so it goes up", Setup.work(roof, "d"), 2);
        Check.same("work: a slate of the next course", roof.courseOf(3, 2), 1);
        Check.same("work: the first gap stays", roof.courseOf(0, 5), 3);
    }

    private static void promise15Storms() {
        SlateRoof roof = Setup.small();
        Setup.buyWhole(roof, 24, 13);
        roof.set(1, 60);
        Check.same("work: laid, fallen, mended", Setup.work(roof, "dsd2"), 10);
        Check.same("work: day 2 takes place 2 and none below", roof.count(13), 1);
        Check.same("work: a storm on a done roof leaves it dry", roof.count(9), 0);
        Check.same("work: mended and laid on the day of the storm", Setup.work(roof, "s"), 2);
        Check.same("work: effort of mending and laying", roof.count(8), 56);
        Setup.work(roof, "r2d");
        Check.same("work: nothing falls in the rain", roof.count(13), 3);
        roof.cover(true);
        Setup.work(roof, "s5");
        Check.same("work: nothing falls under the cover", roof.count(13), 3);
    }

    private static void promise16Undo() {
        SlateRoof roof = new SlateRoof();
        Check.badState("undo: nothing", roof, roof::undo);
        for (int pace = 1; pace <= 8; pace++) {
            roof.set(1, pace);
        }
        Check.same("undo: 6 are saved", roof.count(18), 6);
        Setup.write(roof, "dr");
        for (int left = 5; left >= 0; left--) {
            Check.same("undo: left", roof.undo(), left);
            Check.same("undo: pace", roof.setting(1), 2 + left);
        }
        Check.badState("undo: the oldest are dropped", roof, roof::undo);
        Check.same("undo: the buffer stays", roof.clearBuffer(), 2);
        roof.set(1, 9);
        roof.set(1, 10);
        roof.undo();
        roof.set(2, 3);
        Check.same("undo: new states", roof.count(18), 2);
        roof.undo();
        Check.same("undo: pace in between", roof.setting(1), 9);
        Check.same("undo: drying", roof.setting(2), 2);
        roof.undo();
        Check.same("undo: the eldest", roof.setting(1), 2);
    }

    /** Each method that is marked so saves the state, and undo brings back the whole of it. */
    private static void promise16Kinds() {
        SlateRoof roof = threeWithGaps();
        Setup.buyBroken(roof, 20, 2);
        Setup.buyWhole(roof, 24, 9);
        Setup.buyWhole(roof, 16, 9);
        Check.Call[] calls = {
            () -> roof.begin(100, 4), () -> roof.set(0, 4), () -> roof.set(0, 2), () -> roof.buy(8, 200, 3),
            () -> roof.recut(20, 16, 1), () -> roof.clearHeap(8), () -> roof.clearHeap(25), () -> roof.course(16),
            () -> roof.lay(1), () -> roof.mend(0, 3), () -> roof.cover(false), () -> roof.cover(true),
            () -> roof.pass(0), () -> roof.pass(1), () -> roof.pass(2)};
        for (int number = 0; number < calls.length; number++) {
            roof.set(1, 20);
            if (number == 8) {
                roof.course(16);
            }
            long before = withoutSaved(roof);
            calls[number].run();
            Check.same("saved by the call " + number, roof.count(18), 6);
            roof.undo();
            Check.same("undo of the call " + number, withoutSaved(roof), before);
        }
    }

    /** The whole state as far as it can be asked for, but for the saved states. */
    private static long withoutSaved(SlateRoof roof) {
        long hash = 1;
        for (int what = 0; what < 18; what++) {
            hash = hash * 31 + roof.count(what);
        }
        for (int length = 8; length <= 24; length++) {
            for (int what = 0; what < 4; what++) {
                hash = hash * 31 + roof.slates(length, what);
            }
        }
        for (int course = 0; course < roof.count(2); course++) {
            for (int place = 0; place < roof.courseOf(course, 1); place++) {
                hash = hash * 31 + (roof.lies(course, place) ? course + 1 : 0);
            }
        }
        for (int setting = 0; setting < 3; setting++) {
            hash = hash * 31 + roof.setting(setting);
        }
        return hash;
    }

    public static void main(String[] args) {
        promise12Append();
        promise13ClearBuffer();
        promise14FirstError();
        promise15Rows();
        promise15Thousand();
        promise15Laying();
        promise15CourseWithoutEffort();
        promise15WeatherFirst();
        promise15Lengths();
        promise15Mending();
        promise15MendingFirst();
        promise15Storms();
        promise16Undo();
        promise16Kinds();
        Check.end("TextsTest");
    }
}
