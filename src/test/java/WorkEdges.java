/** The edges of promises 7 to 11: courses, laying, mending, the cover and the days. */
final class WorkEdges {
    private static final int LEAST = Integer.MIN_VALUE;
    private static final int MOST = Integer.MAX_VALUE;

    private WorkEdges() {
    }

    /** Width 4, two courses of 24, so many of the 5 places of the last one with a slate; enough in stock. */
    private static SlateRoof partly(int laid) {
        SlateRoof roof = Roofs.above(24, 24, 9);
        roof.course(24);
        if (laid > 0) {
            roof.lay(laid);
        }
        return roof;
    }

    private static void course() {
        Edge.of("Promise 7", "Begins a course.");
        SlateRoof roof = new SlateRoof();
        roof.course(20);
        Edge.same("courses", roof.count(2), 1);
        Edge.same("places without a slate", roof.count(5), 6);
        Edge.same("slates", roof.count(4), 0);
        Edge.same("effort", roof.count(8), 20);
        Edge.of("Promise 7", "Undoable.");
        Edge.undoable("the first", SlateRoof::new, r -> r.course(20));
        Edge.undoable("the second", () -> Roofs.above(20, 12, 5), r -> r.course(12));
        Edge.of("Promise 7", "- `length`: 8 to 24");
        Edge.after("8", SlateRoof::new, r -> r.course(8), r -> r.courseOf(0, 0), 8);
        Edge.after("24", SlateRoof::new, r -> r.course(24), r -> r.courseOf(0, 0), 24);
        Edge.of("Promise 7", "Returns the number of the course.");
        Edge.answers("the first", SlateRoof::new, r -> r.course(8), 0);
        Edge.answers("the second", () -> Roofs.above(8, 8, 0), r -> r.course(8), 1);
        Edge.answers("the last", () -> Roofs.tower(99), r -> r.course(8), 99);
        Edge.of("Promise 7", "Throws `IllegalArgumentException` if length is out of range");
        int[] outside = {7, 25, 0, -8, LEAST, MOST};
        for (int length : outside) {
            Edge.badArgument("length " + length, SlateRoof::new, r -> r.course(length));
        }
    }

    private static void courseRefused() {
        Edge.of("Promise 7", "Throws `IllegalStateException` if slates cannot be laid, a place of the last course is");
        Edge.badState("under the cover", () -> Roofs.covered(new SlateRoof()), r -> r.course(8));
        Edge.badState("damp for 1 day", () -> Roofs.withDamp(new SlateRoof(), 1), r -> r.course(8));
        Edge.badState("no slate in the last course", () -> partly(0), r -> r.course(24));
        Edge.badState("one place without a slate", () -> partly(4), r -> r.course(24));
        Edge.answers("all places with a slate", () -> partly(5), r -> r.course(24), 2);
        Edge.badState("its top is the height", () -> Roofs.twoOf24(20), r -> r.course(8));
        Edge.answers("its top is 1 less", () -> Roofs.twoOf24(21), r -> r.course(8), 2);
        Edge.badState("its length is 1 less than length", () -> Roofs.above(23, 8, 0), r -> r.course(24));
        Edge.answers("its length is length", () -> Roofs.above(23, 8, 0), r -> r.course(23), 1);
        Edge.answers("99 courses", () -> Roofs.tower(99), r -> r.course(8), 99);
        Edge.badState("100 courses", () -> Roofs.tower(100), r -> r.course(8));
        SlateRoof below = Roofs.stormed(1);
        below.set(0, 5);
        below.lay(1);
        Edge.same("a gap below the last course does not matter", below.course(24), 2);
        SlateRoof tired = Roofs.withEffort(Roofs.above(16, 16, 0), 1);
        Edge.same("no slates and little effort do not matter", tired.course(16), 1);
    }

    /** A course of 16 on a width of 6, so many slates in it, so many in stock. */
    private static SlateRoof begun(int laid, int stock) {
        SlateRoof roof = new SlateRoof();
        Setup.buyWhole(roof, 16, laid + stock);
        roof.course(16);
        if (laid > 0) {
            roof.lay(laid);
        }
        return roof;
    }

    /** A course of 30 places and 31 slates, the effort 20. */
    private static SlateRoof broad() {
        SlateRoof roof = new SlateRoof();
        roof.begin(100, 30);
        Setup.buyWhole(roof, 16, 61);
        roof.course(16);
        return roof;
    }

    /** The second of two courses on a width of 30, with 31 places and slates and an effort of 60. */
    private static SlateRoof broadest() {
        SlateRoof roof = Roofs.withEffort(broad(), 60);
        roof.lay(30);
        roof.course(16);
        roof.pass(0);
        return roof;
    }

    private static void lay() {
        Edge.of("Promise 8", "Lays slates in the last course, each one at the first place without one.");
        SlateRoof gaps = Roofs.pair(0, 2);
        gaps.lay(1);
        Edge.same("1.1 first", gaps.lies(1, 1), true);
        Edge.same("1.6 not yet", gaps.lies(1, 6), false);
        gaps.lay(1);
        Edge.same("1.6 then", gaps.lies(1, 6), true);
        Edge.same("0.3 is in no last course", gaps.lies(0, 3), false);
        SlateRoof rest = begun(2, 9);
        rest.lay(3);
        for (int place = 0; place < 6; place++) {
            Edge.same("0." + place, rest.lies(0, place), place < 5);
        }
        Edge.same("effort", rest.count(8), 20 - 5);
        Edge.same("stock", rest.slates(16, 0), 6);
        Edge.of("Promise 8", "Undoable.");
        Edge.undoable("lay", Roofs::busy, r -> r.lay(2));
        Edge.of("Promise 8", "- `many`: 1 to 60");
        Edge.answers("1", () -> begun(0, 6), r -> r.lay(1), 1);
        Edge.answers("31, as many as there are places", WorkEdges::broadest, r -> r.lay(31), 31);
        Edge.badState("60, more than there are places", WorkEdges::broadest, r -> r.lay(60));
        Edge.of("Promise 8", "Returns how many slates lie in the course then.");
        Edge.answers("2 after none", () -> begun(0, 6), r -> r.lay(2), 2);
        Edge.answers("2 after 4", () -> begun(4, 6), r -> r.lay(2), 6);
        Edge.answers("1 into a gap", () -> Roofs.pair(0, 2), r -> r.lay(1), 6);
        Edge.of("Promise 8", "Throws `IllegalArgumentException` if many is out of range");
        int[] outside = {0, 61, -1, LEAST, MOST};
        for (int many : outside) {
            Edge.badArgument("many " + many, WorkEdges::broadest, r -> r.lay(many));
        }
    }

    private static void layRefused() {
        Edge.of("Promise 8", "Throws `IllegalStateException` if slates cannot be laid, there is no course, or there");
        Edge.badState("under the cover", () -> Roofs.covered(begun(0, 6)), r -> r.lay(1));
        Edge.badState("damp for 1 day", () -> Roofs.withDamp(begun(0, 6), 1), r -> r.lay(1));
        Edge.badState("no course", () -> Roofs.bought(0), r -> r.lay(1));
        Edge.answers("4 for 4 places", () -> begun(2, 9), r -> r.lay(4), 6);
        Edge.badState("5 for 4 places", () -> begun(2, 9), r -> r.lay(5));
        Edge.badState("1 for no place", () -> begun(6, 9), r -> r.lay(1));
        Edge.answers("5 of 5 in stock", () -> begun(0, 5), r -> r.lay(5), 5);
        Edge.badState("6 of 5 in stock", () -> begun(0, 5), r -> r.lay(6));
        Edge.badState("1 of none in stock", () -> begun(0, 0), r -> r.lay(1));
        Edge.badState("only of other lengths", () -> Roofs.pair(9, 0), r -> r.lay(1));
        Edge.answers("20 with an effort of 20", WorkEdges::broad, r -> r.lay(20), 20);
        Edge.badState("21 with an effort of 20", WorkEdges::broad, r -> r.lay(21));
        Edge.answers("1 with an effort of 1", () -> Roofs.withEffort(begun(0, 6), 1), r -> r.lay(1), 1);
        Edge.badState("2 with an effort of 1", () -> Roofs.withEffort(begun(0, 6), 1), r -> r.lay(2));
        Edge.badState("broken ones cannot be laid", WorkEdges::onlyBroken, r -> r.lay(1));
    }

    private static SlateRoof onlyBroken() {
        SlateRoof roof = begun(0, 0);
        Setup.buyBroken(roof, 16, 3);
        return roof;
    }

    private static void mend() {
        Edge.of("Promise 9", "Mends a place.");
        SlateRoof roof = Roofs.pair(1, 2);
        roof.mend(1, 6);
        Edge.same("this one", roof.lies(1, 6), true);
        Edge.same("no other of the course", roof.lies(1, 1), false);
        Edge.same("no other course", roof.lies(0, 3), false);
        Edge.same("stock", roof.slates(16, 0), 1);
        Edge.of("Promise 9", "Undoable.");
        Edge.undoable("mend", Roofs::busy, r -> r.mend(0, 3));
        Edge.of("Promise 9", "- `course`: number of the course");
        Edge.answers("0", Roofs::busy, r -> r.mend(0, 3), 17);
        Edge.answers("1", Roofs::busy, r -> r.mend(1, 1), 17);
        Edge.of("Promise 9", "- `place`: the place");
        Edge.answers("the last of 31", WorkEdges::withoutEnds, r -> r.mend(1, 30), 57);
        Edge.answers("the first of 31", WorkEdges::withoutEnds, r -> r.mend(1, 0), 57);
        Edge.of("Promise 9", "Returns the effort that is left then.");
        Edge.answers("of 20", Roofs::busy, r -> r.mend(1, 1), 17);
        Edge.answers("of 3", () -> Roofs.withEffort(Roofs.busy(), 3), r -> r.mend(1, 1), 0);
        Edge.answers("of 60", () -> Roofs.withEffort(Roofs.busy(), 60), r -> r.mend(1, 1), 57);
        Edge.of("Promise 9", "Throws `IndexOutOfBoundsException` if there is no such course or place");
        int[][] outside = {{-1, 0}, {2, 0}, {0, -1}, {0, 6}, {1, -1}, {1, 7}, {LEAST, 0}, {MOST, 0}, {0, LEAST},
            {0, MOST}, {0, 32}, {0, 35}, {1, 33}, {100, 0}};
        for (int[] one : outside) {
            Edge.badIndex(one[0] + "." + one[1], Roofs::busy, r -> r.mend(one[0], one[1]));
        }
        Edge.badIndex("no course at all", SlateRoof::new, r -> r.mend(0, 0));
        Edge.badIndex("0.30 of 30", () -> Roofs.wide(2), r -> r.mend(0, 30));
        Edge.badState("1.30 is a place", () -> Roofs.wide(2), r -> r.mend(1, 30));
        Edge.badState("0.0 is a place", Roofs::busy, r -> r.mend(0, 0));
        Edge.badState("0.5 is a place", Roofs::busy, r -> r.mend(0, 5));
    }

    /** Two courses of 30 and 31 places, those at 0, 5, .. 30 of the last one without a slate; an effort of 60. */
    private static SlateRoof withoutEnds() {
        SlateRoof roof = Roofs.wide(2);
        roof.pass(0);
        roof.pass(0);
        roof.pass(2);
        roof.pass(0);
        roof.pass(0);
        Setup.buyWhole(roof, 16, 2);
        return roof;
    }

    private static void mendRefused() {
        Edge.of("Promise 9", "Throws `IllegalStateException` if slates cannot be laid, a slate lies there, there is");
        Edge.badState("under the cover", () -> Roofs.covered(Roofs.busy()), r -> r.mend(0, 3));
        Edge.badState("damp for 1 day", () -> Roofs.withDamp(Roofs.busy(), 1), r -> r.mend(0, 3));
        Edge.badState("a slate lies below it", Roofs::busy, r -> r.mend(0, 2));
        Edge.badState("a slate lies above it", Roofs::busy, r -> r.mend(0, 4));
        Edge.badState("a slate lies where one was mended", WorkEdges::mended, r -> r.mend(0, 3));
        Edge.badState("none of its length", () -> Roofs.pair(0, 9), r -> r.mend(0, 3));
        Edge.answers("one of its length", () -> Roofs.pair(1, 0), r -> r.mend(0, 3), 17);
        Edge.badState("an effort of 2", () -> Roofs.withEffort(Roofs.busy(), 2), r -> r.mend(0, 3));
        Edge.answers("an effort of 3", () -> Roofs.withEffort(Roofs.busy(), 3), r -> r.mend(0, 3), 0);
        Edge.answers("an empty place of the last course", () -> partly(0), r -> r.mend(1, 4), 13);
    }

    private static SlateRoof mended() {
        SlateRoof roof = Roofs.busy();
        roof.mend(0, 3);
        return roof;
    }

    private static void cover() {
        Edge.of("Promise 10", "Puts the cover on, or takes it off.");
        Edge.after("on", SlateRoof::new, r -> r.cover(true), r -> r.count(10), 1);
        Edge.after("off", () -> Roofs.covered(new SlateRoof()), r -> r.cover(false), r -> r.count(10), 0);
        Edge.of("Promise 10", "Undoable.");
        Edge.undoable("on", Roofs::busy, r -> r.cover(true));
        Edge.undoable("off, as it was", Roofs::busy, r -> r.cover(false));
        Edge.undoable("off", () -> Roofs.covered(Roofs.busy()), r -> r.cover(false));
        Edge.of("Promise 10", "- `on`: whether it is on then");
        Edge.after("on twice", () -> Roofs.covered(new SlateRoof()), r -> r.cover(true), r -> r.count(10), 1);
        Edge.after("off twice", SlateRoof::new, r -> r.cover(false), r -> r.count(10), 0);
        Edge.of("Promise 10", "Returns 1 if it was on before, otherwise 0.");
        SlateRoof roof = new SlateRoof();
        boolean[] on = {false, true, true, false, false, true};
        int[] due = {0, 0, 1, 1, 0, 0};
        for (int time = 0; time < on.length; time++) {
            Edge.same("time " + time, roof.cover(on[time]), due[time]);
        }
    }

    private static void pass() {
        Edge.of("Promise 11", "Lets a day pass.");
        SlateRoof roof = Roofs.busy();
        roof.lay(2);
        roof.pass(0);
        Edge.same("number", roof.count(7), 4);
        Edge.same("effort", roof.count(8), 20);
        Edge.of("Promise 11", "Undoable.");
        for (int weather = 0; weather <= 2; weather++) {
            int which = weather;
            Edge.undoable("weather " + which, Roofs::busy, r -> r.pass(which));
        }
        Edge.of("Promise 11", "- `weather`: 0 to 2");
        Edge.after("0", () -> Roofs.wide(2), r -> r.pass(0), r -> r.count(9), 0);
        Edge.after("1", () -> Roofs.wide(2), r -> r.pass(1), r -> r.count(9), 2);
        Edge.after("2", () -> Roofs.wide(2), r -> r.pass(2), r -> r.count(9), 2);
        Edge.of("Promise 11", "Returns how many slates fall.");
        Edge.answers("no course", SlateRoof::new, r -> r.pass(2), 0);
        Edge.answers("no slate in the course", () -> partly(0), r -> r.pass(2), 1);
        Edge.answers("one course", () -> Roofs.wide(1), r -> r.pass(2), 6);
        Edge.answers("of the last course and the one below", () -> Roofs.wide(2), r -> r.pass(2), 6 + 6);
        SlateRoof most = Roofs.wide(2);
        most.pass(0);
        most.pass(0);
        Edge.same("seven of 31 places, six of 30", most.pass(2), 7 + 6);
        Edge.answers("none in a storm under the cover", () -> Roofs.covered(Roofs.wide(2)), r -> r.pass(2), 0);
        Edge.of("Promise 11", "Throws `IllegalArgumentException` if weather is out of range");
        int[] outside = {-1, 3, LEAST, MOST};
        for (int weather : outside) {
            Edge.badArgument("weather " + weather, Roofs::busy, r -> r.pass(weather));
        }
        Edge.of("Promise 11", "Throws `IllegalStateException` if the number of the day is 1000");
        for (int weather = 0; weather <= 2; weather++) {
            int which = weather;
            Edge.after("day 999, weather " + which, () -> Roofs.onDay(999), r -> r.pass(which), r -> r.count(7), 1000);
            Edge.badState("day 1000, weather " + which, () -> Roofs.onDay(1000), r -> r.pass(which));
        }
        SlateRoof last = Roofs.onDay(999);
        last.pass(0);
        last.undo();
        last.pass(0);
        Edge.same("undone, the day can pass again", last.count(7), 1000);
    }

    static void all() {
        course();
        courseRefused();
        lay();
        layRefused();
        mend();
        mendRefused();
        cover();
        pass();
    }
}
