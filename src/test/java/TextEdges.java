/** The edges of texts, of undo and of exceptions, and of promises 12 to 16. */
final class TextEdges {
    private static final String TEXT = "Input text";

    private TextEdges() {
    }

    private static Edge.Maker text(String text) {
        return () -> Roofs.written(new SlateRoof(), text);
    }

    /** The text is a row of so many days. */
    private static void row(String text, int days) {
        SlateRoof roof = text(text).make();
        Edge.same("first error of " + text, roof.firstError(), text.length());
        roof.work();
        Edge.same("days of " + text, roof.count(7), days);
        Edge.same("buffer after " + text, roof.clearBuffer(), 0);
    }

    private static void noRow(String text) {
        Edge.badArgument("work of " + text, text(text), SlateRoof::work);
    }

    private static void firstError(String text, int due) {
        Edge.answers("first error of " + text, text(text), SlateRoof::firstError, due);
        Edge.onlyLooks("first error of " + text, text(text), SlateRoof::firstError);
    }

    private static void buffer() {
        Edge.of(TEXT, "The buffer has at most 60 characters.");
        Edge.answers("the character 60", text("d".repeat(59)), r -> r.append('d'), 60);
        Edge.badState("the character 61", text("d".repeat(60)), r -> r.append('d'));
        Edge.answers("60 of them", text("d".repeat(60)), SlateRoof::clearBuffer, 60);
        row("d".repeat(60), 60);
    }

    private static void rows() {
        Edge.of(TEXT, "A row of days is one or more of these parts, without anything between them: \"d\" (dry), \"r\"");
        noRow("");
        row("d", 1);
        row("r", 1);
        row("s", 1);
        row("drs", 3);
        row("d2", 2);
        row("d9", 9);
        row("d10", 10);
        row("d11", 11);
        row("r19", 19);
        row("s99", 99);
        row("d2r3s4d", 10);
        String[] wrong = {"d1", "d0", "d00", "d01", "d02", "d100", "d990", "2", "2d", "1", "D", "x", "dx", "d,d", "d-2",
            "d+2", "d2.5", "d1r", "dd1", "d2r1", "(d)", "d/", "d:", "c", "e", "q", "t", "~", "!"};
        for (String text : wrong) {
            noRow(text);
        }
        SlateRoof roof = new SlateRoof();
        Setup.work(roof, "d");
        Edge.same("d is dry", roof.count(9), 0);
        Setup.work(roof, "r");
        Edge.same("r is rain", roof.count(9), 2);
        Edge.same("r is no storm", afterText("r"), 0);
        Edge.same("s is storm", afterText("s"), 6);

        Edge.of(TEXT, "(At most 200 days in all; more are no syntax error.)");
        row("d99d99d2", 200);
        row("d99r99sd", 200);
        firstError("d99d99d3", 8);
        firstError("d99".repeat(20), 60);
        Edge.badState("201 days", text("d99d99d3"), SlateRoof::work);
        Edge.badState("1980 days", text("d99".repeat(20)), SlateRoof::work);
    }

    /** How many slates of a course with 30 places fall on a day 3 of this weather. */
    private static int afterText(String text) {
        SlateRoof roof = Roofs.wide(1);
        Setup.work(roof, text);
        return roof.count(13);
    }

    private static void firstErrors() {
        Edge.of(TEXT, "a character is a syntax error if no row of days, of any length, begins with the characters");
        firstError("d1", 2);
        firstError("d10", 3);
        firstError("d1d", 2);
        firstError("d1r2", 2);
        firstError("d0", 1);
        firstError("d20", 3);
        firstError("d99", 3);
        firstError("d990", 3);
        firstError("d19d", 4);
        firstError("d100", 3);
        firstError("0d", 0);
        firstError("9", 0);
        firstError("dd9r", 4);
        firstError("d/2", 1);
        firstError("d:2", 1);
        firstError("d2/", 2);
        firstError("d2:", 2);
        firstError("cd", 0);
        firstError("ed", 0);
        firstError("d".repeat(59) + "1", 60);
        firstError("d".repeat(58) + "19", 60);
        firstError("d".repeat(59) + "0", 59);
        firstError("d".repeat(57) + "100", 59);
        Edge.badArgument("60 characters that are only the begin of a row", text("d".repeat(59) + "1"), SlateRoof::work);

        Edge.of("Promise 14", "Finds the first syntax error of the buffer.");
        firstError("dx", 1);
        firstError("dxx", 1);
        firstError("xd1x", 0);
        Edge.of("Promise 14", "Returns the index of the first character that is a syntax error; the length of the");
        firstError("", 0);
        firstError("d", 1);
        firstError("!", 0);
        firstError("d~", 1);
        firstError("d".repeat(59) + "x", 59);
        firstError("x" + "d".repeat(59), 0);
        firstError("d".repeat(60), 60);
    }

    private static SlateRoof nineOf24() {
        SlateRoof roof = Setup.small();
        Setup.buyWhole(roof, 24, 9);
        return roof;
    }

    private static void placed(String what, SlateRoof roof, String text, int due) {
        Edge.same(what + ", " + text, Setup.work(roof, text), due);
    }

    private static void weatherFirst() {
        Edge.of(TEXT, "for each day, first it passes with its weather; then, if slates can be laid, the slaters go on");
        placed("damp for 1 day", Roofs.withDamp(nineOf24(), 1), "d", 9);
        placed("damp for 2 days", Roofs.withDamp(nineOf24(), 2), "d", 0);
        placed("damp for 2 days", Roofs.withDamp(nineOf24(), 2), "d2", 9);
        placed("damp for 5 days", Roofs.withDamp(nineOf24(), 5), "d4", 0);
        placed("dry", nineOf24(), "r", 0);
        placed("dry", nineOf24(), "rd", 0);
        placed("dry", nineOf24(), "rd2", 9);
        placed("under the cover", Roofs.covered(nineOf24()), "d9", 0);
        SlateRoof slow = nineOf24();
        slow.set(1, 4);
        placed("the effort is that of the new day", slow, "d", 4);
        placed("4 more", slow, "d", 4);
        placed("the last", slow, "d", 1);
        SlateRoof done = Roofs.twoOf24(20);
        Setup.buyWhole(done, 24, 2);
        placed("a storm on a done roof leaves it dry", done, "s", 2);
        Edge.same("one mended, one laid", done.count(8), 20 - 3 - 1);
    }

    private static void mending() {
        Edge.of(TEXT, "1. mending the first place without a slate (by courses, then by places) of all courses but the");
        SlateRoof all = Roofs.gappy(1, 2, 1, 60);
        placed("slates for all places", all, "d", 4);
        Edge.same("three mended, one laid", all.count(8), 60 - 9 - 1);
        SlateRoof first = Roofs.gappy(1, 2, 1, 3);
        placed("effort for one", first, "d", 1);
        Edge.same("by courses: 0.3", first.lies(0, 3), true);
        Edge.same("by courses: 1.1", first.lies(1, 1), false);
        SlateRoof places = Roofs.gappy(1, 1, 0, 60);
        placed("slates for two", places, "d", 2);
        Edge.same("by places: 1.1", places.lies(1, 1), true);
        Edge.same("by places: 1.6", places.lies(1, 6), false);
        SlateRoof last = Roofs.pair(0, 2);
        placed("the last course", last, "d", 2);
        Edge.same("is laid, not mended", last.count(8), 20 - 2);

        Edge.of(TEXT, "(if that place cannot be mended, no other one is mended in its stead)");
        SlateRoof none = Roofs.gappy(0, 2, 0, 60);
        placed("none of 20 for 0.3", none, "d", 0);
        Edge.same("no other: 1.1", none.lies(1, 1), false);
        SlateRoof on = Roofs.gappy(0, 2, 1, 60);
        placed("but the last course goes on", on, "d", 1);
        Edge.same("it has gone on: 2.4", on.lies(2, 4), true);
        Edge.same("no other: 1.6", on.lies(1, 6), false);
    }

    private static void laying() {
        Edge.of(TEXT, "2. laying a slate at the first place without one of the last course;");
        SlateRoof one = Roofs.pair(0, 1);
        placed("one slate for two places", one, "d", 1);
        Edge.same("the first", one.lies(1, 1), true);
        Edge.same("the second", one.lies(1, 6), false);
        SlateRoof mended = Roofs.gappy(1, 2, 1, 7);
        placed("after mending with too little for more", mended, "d", 3);
        Edge.same("2.4 with the last effort", mended.lies(2, 4), true);
        Edge.same("1.6 was too dear", mended.lies(1, 6), false);

        Edge.of(TEXT, "They do not lay or mend without a slate of the right length in stock, or with too little");
        SlateRoof noEffort = Roofs.gappy(1, 2, 1, 6);
        placed("two mended", noEffort, "d", 2);
        Edge.same("nothing left to lay with", noEffort.lies(2, 4), false);
        Edge.same("an effort of 0", noEffort.count(8), 0);
        SlateRoof two = Roofs.gappy(1, 2, 1, 2);
        placed("2 is too little for mending, enough for laying", two, "d", 1);
        Edge.same("not mended", two.lies(0, 3), false);
        Edge.same("laid", two.lies(2, 4), true);
        Edge.same("an effort of 1 is left", two.count(8), 1);
        placed("no slates at all", Roofs.gappy(0, 0, 0, 60), "d9", 0);
        SlateRoof other = Roofs.pair(0, 0);
        Setup.buyWhole(other, 19, 9);
        Setup.buyWhole(other, 15, 9);
        placed("only slates of other lengths", other, "d", 0);
        placed("one of the right length", Roofs.pair(1, 0), "d", 1);
    }

    private static SlateRoof stocked(int length, int many) {
        SlateRoof roof = new SlateRoof();
        Setup.buyWhole(roof, length, many);
        return roof;
    }

    private static void courses(String what, SlateRoof roof, int placed, int courses) {
        placed(what, roof, "d", placed);
        Edge.same(what + ": courses", roof.count(2), courses);
    }

    private static void beginning() {
        Edge.of(TEXT, "3. if no place of the last course is without a slate, and its top is less than the height (or");
        courses("no course, 6 of 8", stocked(8, 6), 6, 1);
        courses("no course, 6 of 24", stocked(24, 6), 6, 1);
        SlateRoof gaps = Roofs.pair(0, 0);
        Setup.buyWhole(gaps, 12, 30);
        courses("places without a slate in the last course", gaps, 0, 2);
        SlateRoof filled = Roofs.pair(0, 2);
        Setup.buyWhole(filled, 12, 6);
        courses("none in the last course, but one below", filled, 2 + 6, 3);
        SlateRoof high = Roofs.twoOf24(20);
        Setup.buyWhole(high, 24, 9);
        courses("its top is the height", high, 0, 2);
        SlateRoof low = Roofs.twoOf24(21);
        Setup.buyWhole(low, 24, 9);
        courses("its top is 1 less than the height", low, 4, 3);
        SlateRoof paced = nineOf24();
        paced.set(1, 4);
        courses("a course takes no effort", paced, 4, 2);

        Edge.of(TEXT, "and there are less than 100 courses");
        SlateRoof last = Roofs.tower(99);
        Setup.buyWhole(last, 8, 3);
        courses("99 courses", last, 3, 100);
        SlateRoof full = Roofs.tower(100);
        Setup.buyWhole(full, 8, 9);
        courses("100 courses", full, 0, 100);

        Edge.of(TEXT, "of the greatest length (at most that of the last course) of which there are at least as many");
        courses("no course, 5 of 24 for 6 places", stocked(24, 5), 0, 0);
        courses("4 for 5 places", Roofs.above(16, 16, 4), 0, 1);
        courses("5 for 5 places", Roofs.above(16, 16, 5), 5, 2);
        courses("only longer ones", Roofs.above(16, 17, 9), 0, 1);
        SlateRoof two = stocked(22, 12);
        Setup.buyWhole(two, 23, 6);
        courses("23, then 22", two, 13, 2);
        Edge.same("23 is greater", two.courseOf(0, 0), 23);
        Edge.same("22 is what is left", two.courseOf(1, 0), 22);
        SlateRoof longest = Roofs.above(16, 24, 9);
        Setup.buyWhole(longest, 8, 5);
        courses("the least length", longest, 5, 2);
    }

    private static void savedStates() {
        Edge.of("Undo", "Each method that is marked \"undoable\" and does not throw an exception saves the state from");
        Edge.undoable("begin as it is", SlateRoof::new, r -> r.begin(100, 6));
        Edge.undoable("set as it is", SlateRoof::new, r -> r.set(0, 4));
        Edge.undoable("clearHeap of nothing", SlateRoof::new, r -> r.clearHeap(25));
        Edge.undoable("cover as it is", SlateRoof::new, r -> r.cover(false));
        Edge.undoable("work without slates", text("d"), SlateRoof::work);
        Edge.onlyLooks("firstError", text("d1"), SlateRoof::firstError);
        SlateRoof roof = Roofs.written(new SlateRoof(), "d2");
        Edge.same("append saves nothing", roof.count(18), 0);
        roof.clearBuffer();
        Edge.same("clearBuffer saves nothing", roof.count(18), 0);

        Edge.of("Undo", "(also if it changes nothing): all but the buffer and the saved states.");
        Setup.write(roof, "d");
        roof.set(1, 5);
        roof.append('2');
        roof.undo();
        Edge.same("the buffer is not brought back", roof.clearBuffer(), 2);
        roof.set(1, 5);
        roof.set(1, 6);
        roof.undo();
        Edge.same("the saved states are not brought back", roof.count(18), 1);
        SlateRoof worked = Roofs.written(new SlateRoof(), "d");
        worked.work();
        worked.undo();
        Edge.same("nor the text that was worked through", worked.clearBuffer(), 0);

        Edge.of("Undo", "At most 6 states are saved; the oldest one is dropped first.");
        for (int sets = 1; sets <= 14; sets++) {
            SlateRoof many = new SlateRoof();
            for (int pace = 1; pace <= sets; pace++) {
                many.set(1, pace);
            }
            int saved = Math.min(sets, 6);
            Edge.same("saved after " + sets, many.count(18), saved);
            for (int back = 1; back <= saved; back++) {
                many.undo();
                Edge.same("pace, " + back + " undone of " + sets, many.setting(1), back == sets ? 20 : sets - back);
            }
            Edge.same("none is left of " + sets, many.count(18), 0);
        }
    }

    private static void manyUndone() {
        Edge.of("Promise 16", "Restores the latest saved state, and drops it.");
        SlateRoof roof = new SlateRoof();
        for (int pace = 1; pace <= 9; pace++) {
            roof.set(1, pace);
        }
        roof.undo();
        roof.undo();
        Edge.same("two undone", roof.setting(1), 7);
        for (int pace = 11; pace <= 13; pace++) {
            roof.set(1, pace);
        }
        Edge.same("six again, the oldest dropped", roof.count(18), 6);
        int[] due = {12, 11, 7, 6, 5, 4};
        Edge.of("Promise 16", "Returns how many saved states are left.");
        for (int back = 0; back < 6; back++) {
            Edge.same("undo " + back, roof.undo(), 5 - back);
            Edge.same("pace " + back, roof.setting(1), due[back]);
        }
        Edge.of("Promise 16", "Throws `IllegalStateException` if there is none");
        Edge.refusedOnce(IllegalStateException.class, "new", SlateRoof::new, SlateRoof::undo);
        Edge.refusedOnce(IllegalStateException.class, "all undone", TextEdges::undone, SlateRoof::undo);
        Edge.refusedOnce(IllegalStateException.class, "only a text", text("d"), SlateRoof::undo);
        SlateRoof one = new SlateRoof();
        one.cover(true);
        Edge.same("one is there", one.undo(), 0);
    }

    private static SlateRoof undone() {
        SlateRoof roof = Roofs.twoOf24(20);
        while (roof.count(18) > 0) {
            roof.undo();
        }
        return roof;
    }

    private static void exceptions() {
        Edge.of("Exceptions", "A call that throws an exception changes nothing.");
        Edge.Call[] refused = {r -> r.begin(19, 6), r -> r.set(3, 3), r -> r.set(0, 7), r -> r.buy(7, 1, 1),
            r -> r.buy(8, 201, 1), r -> r.recut(24, 20, 3), r -> r.recut(24, 21, 1), r -> r.clearHeap(26),
            r -> r.course(8), r -> r.course(25), r -> r.lay(3), r -> r.lay(0), r -> r.mend(0, 2), r -> r.mend(0, 6),
            r -> r.pass(3), r -> r.append(127), r -> r.courseOf(2, 0), r -> r.courseOf(0, 7),
            r -> r.lies(1, 7) ? 1 : 0, r -> r.slates(25, 0), r -> r.count(19), r -> r.setting(3), r -> r.toTop(8, 2),
            r -> r.reach(4)};
        SlateRoof roof = Roofs.busy();
        long before = roof.digest();
        int thrown = 0;
        for (Edge.Call call : refused) {
            try {
                call.on(roof);
            } catch (IllegalArgumentException | IllegalStateException | IndexOutOfBoundsException e) {
                thrown++;
            }
        }
        Edge.same("all of them throw", thrown, refused.length);
        Edge.same("one after the other", roof.digest(), before);

        Edge.of("Exceptions", "If several exceptions apply, the one that is named first in the throws clause is");
        Edge.badIndex("set: no setting, no value", Roofs::busy, r -> r.set(3, -1));
        Edge.badIndex("set: none below, either", Roofs::busy, r -> r.set(-1, 61));
        Edge.badArgument("buy: no length, too many", () -> Roofs.bought(200), r -> r.buy(25, 1, 1));
        Edge.badArgument("buy: too many in either way", () -> Roofs.bought(200), r -> r.buy(8, 201, 1));
        Edge.badArgument("recut: too long, none there", SlateRoof::new, r -> r.recut(24, 21, 1));
        Edge.badArgument("recut: too many in either way", Roofs::busy, r -> r.recut(24, 20, 201));
        Edge.badArgument("course: no length, under the cover", () -> Roofs.covered(Roofs.busy()), r -> r.course(25));
        Edge.badArgument("course: no length, longer than below", Roofs::busy, r -> r.course(25));
        Edge.badArgument("lay: too many in either way", Roofs::busy, r -> r.lay(61));
        Edge.badArgument("lay: none, without a course", SlateRoof::new, r -> r.lay(0));
        Edge.badIndex("mend: no place, under the cover", () -> Roofs.covered(Roofs.busy()), r -> r.mend(0, 6));
        Edge.badIndex("mend: no course, damp", () -> Roofs.withDamp(Roofs.busy(), 1), r -> r.mend(2, 0));
        Edge.badArgument("pass: no weather, no day", () -> Roofs.onDay(1000), r -> r.pass(3));
        Edge.badArgument("append: no code, no room", text("d".repeat(60)), r -> r.append(127));
        Edge.badArgument("work: no row, too many days", text("d99d99d99d1"), SlateRoof::work);
        Edge.badArgument("work: no row, no day", () -> Roofs.written(Roofs.onDay(1000), "d2r1"), SlateRoof::work);
        Edge.badArgument("work: nothing, no day", () -> Roofs.onDay(1000), SlateRoof::work);
        Edge.badIndex("courseOf: no course, no property", Roofs::busy, r -> r.courseOf(2, 7));

        Edge.of("Exceptions", "The constants: `NONE = -1`: There is nothing to return.");
        Edge.same("NONE", SlateRoof.NONE, -1);
        Edge.answers("nothing to return", SlateRoof::new, r -> r.reach(3), -1);
    }

    private static void append() {
        Edge.of("Promise 12", "Appends a character to the buffer.");
        Edge.after("a d", text("d"), r -> r.append('d'), SlateRoof::firstError, 2);
        Edge.after("an x", text("d"), r -> r.append('x'), SlateRoof::firstError, 1);
        Edge.of("Promise 12", "- `code`: the character code, 33 to 126");
        Edge.answers("33", SlateRoof::new, r -> r.append(33), 1);
        Edge.answers("126", SlateRoof::new, r -> r.append(126), 1);
        Edge.of("Promise 12", "Returns the new length of the buffer.");
        SlateRoof roof = new SlateRoof();
        for (int length = 1; length <= 60; length++) {
            Edge.same("length " + length, roof.append(32 + length), length);
        }
        Edge.of("Promise 12", "Throws `IllegalArgumentException` if code is not 33 to 126");
        int[] codes = {32, 127, 0, -1, 128, 255, 65536 + 100, Integer.MIN_VALUE, Integer.MAX_VALUE};
        for (int code : codes) {
            Edge.badArgument("code " + code, text("d"), r -> r.append(code));
        }
        Edge.of("Promise 12", "Throws `IllegalStateException` if the buffer has 60 characters");
        Edge.answers("59 characters", text("r".repeat(59)), r -> r.append('2'), 60);
        Edge.badState("60 characters", text("r".repeat(60)), r -> r.append('2'));
        SlateRoof cleared = text("r".repeat(60)).make();
        cleared.clearBuffer();
        Edge.same("cleared", cleared.append('r'), 1);
        SlateRoof worked = text("r".repeat(60)).make();
        worked.work();
        Edge.same("worked through", worked.append('r'), 1);

        Edge.of("Promise 13", "Clears the buffer.");
        SlateRoof again = text("x".repeat(60)).make();
        again.clearBuffer();
        Setup.write(again, "d2");
        Edge.same("nothing is left of the old text", again.firstError(), 2);
        again.work();
        Edge.same("nor of its days", again.count(7), 2);
        Edge.of("Promise 13", "Returns the length that it had.");
        Edge.answers("empty", SlateRoof::new, SlateRoof::clearBuffer, 0);
        Edge.answers("one", text("x"), SlateRoof::clearBuffer, 1);
        Edge.answers("60", text("d".repeat(60)), SlateRoof::clearBuffer, 60);
    }

    private static Edge.Maker onDay(int day, String text) {
        return () -> Roofs.written(Roofs.onDay(day), text);
    }

    private static void work() {
        Edge.of("Promise 15", "Works through the row of days in the buffer, and clears the buffer.");
        row("d", 1);
        row("d2s2r", 5);
        Edge.of("Promise 15", "Undoable, as one call.");
        Edge.undoable("200 days", text("d99r99s2"), SlateRoof::work);
        Edge.undoable("a day with slates", () -> Roofs.written(nineOf24(), "d"), SlateRoof::work);
        Edge.of("Promise 15", "Returns how many slates were laid and mended.");
        placed("none", new SlateRoof(), "d", 0);
        placed("one mended", Roofs.gappy(1, 0, 0, 20), "d", 1);
        placed("one laid", Roofs.pair(0, 1), "d", 1);
        placed("one mended, two laid", Roofs.pair(1, 2), "d", 3);
        SlateRoof fallen = Roofs.twoOf24(20);
        Setup.buyWhole(fallen, 24, 3);
        placed("what falls does not count", fallen, "sd9", 2);
        Edge.of("Promise 15", "Throws `IllegalArgumentException` if the buffer is not a complete row of days");
        noRow("");
        noRow("d1");
        noRow("s2d1");
        noRow("d2x");
        row("d12", 12);
        Edge.of("Promise 15", "Throws `IllegalStateException` if there are more than 200 days in it, or the number of");
        row("d99d98rds", 200);
        Edge.badState("201 days", text("d99d98rdsd"), SlateRoof::work);
        int[] days = {800, 995, 999};
        String[] texts = {"d99d99d2", "d5", "d"};
        for (int index = 0; index < texts.length; index++) {
            String text = texts[index];
            SlateRoof roof = onDay(days[index], text).make();
            roof.work();
            Edge.same(text + " to the last day", roof.count(7), 1000);
            Edge.badState(text + " above it", onDay(days[index] + 1, text), SlateRoof::work);
        }
        Edge.badState("after the last day", onDay(1000, "d"), SlateRoof::work);
    }

    static void all() {
        buffer();
        rows();
        firstErrors();
        weatherFirst();
        mending();
        laying();
        beginning();
        savedStates();
        manyUndone();
        exceptions();
        append();
        work();
    }
}
