import java.math.BigInteger;
import java.util.ArrayList;
import java.util.List;

/** The edges of promises 17 to 27: what there is, and what would be. */
final class ViewEdges {
    private static final int NONE = -1;
    private static final int LEAST = Integer.MIN_VALUE;
    private static final int MOST = Integer.MAX_VALUE;

    private ViewEdges() {
    }

    private static void properties(String what, Edge.Maker maker, int course, int... due) {
        for (int number = 0; number < due.length; number++) {
            int property = number;
            Edge.answers(what + ", property " + property, maker, r -> r.courseOf(course, property), due[property]);
        }
    }

    private static void courseOf() {
        Edge.of("Promise 17", "Returns a property of a course.");
        Edge.onlyLooks("courseOf", Roofs::busy, r -> r.courseOf(1, 5));
        properties("one gap", Roofs::busy, 0, 20, 6, 5, 8, 8, 3, 3);
        properties("two gaps", Roofs::busy, 1, 16, 7, 5, 6, 14, 1, 6);
        Edge.of("Promise 17", "- `course`: number of the course");
        Edge.answers("the first", () -> Roofs.tower(100), r -> r.courseOf(0, 4), 1);
        Edge.answers("the last", () -> Roofs.tower(100), r -> r.courseOf(99, 4), 100);
        Edge.of("Promise 17", "- `what`: 0: its length; 1: its places; 2: slates that lie in it; 3: its gauge; 4: its");
        properties("no slate", () -> withCourse(24), 0, 24, 6, 0, 10, 10, 0, 5);
        properties("all but the first", ViewEdges::withoutFirst, 0, 8, 2, 1, 1, 1, 0, 0);
        properties("all but the last", ViewEdges::withoutLast, 0, 8, 2, 1, 1, 1, 1, 1);
        properties("all", () -> Roofs.tower(99), 98, 8, 2, 2, 1, 99, NONE, NONE);
        properties("31 places", () -> Roofs.wide(2), 1, 16, 31, 31, 6, 14, NONE, NONE);
        properties("31 places with gaps", ViewEdges::gapsAtBothEnds, 1, 16, 31, 24, 6, 14, 0, 30);
        Edge.of("Promise 17", "Returns the property.");
        Edge.answers("property 0", Roofs::busy, r -> r.courseOf(0, 0), 20);
        Edge.answers("property 6", Roofs::busy, r -> r.courseOf(0, 6), 3);
        Edge.of("Promise 17", "Throws `IndexOutOfBoundsException` if there is no such course");
        int[] none = {-1, 2, 100, LEAST, MOST};
        for (int course : none) {
            Edge.badIndex("course " + course, Roofs::busy, r -> r.courseOf(course, 0));
        }
        Edge.badIndex("no course at all", SlateRoof::new, r -> r.courseOf(0, 0));
        Edge.badIndex("course 100", () -> Roofs.tower(100), r -> r.courseOf(100, 0));
        Edge.of("Promise 17", "Throws `IllegalArgumentException` if what is not 0 to 6");
        int[] outside = {-1, 7, LEAST, MOST};
        for (int what : outside) {
            Edge.badArgument("what " + what, Roofs::busy, r -> r.courseOf(0, what));
        }
    }

    private static SlateRoof withCourse(int length) {
        SlateRoof roof = new SlateRoof();
        roof.course(length);
        return roof;
    }

    /** One course of two places, from which this storm of day 5 or 1 takes one. */
    private static SlateRoof twoPlaces(int day) {
        SlateRoof roof = Roofs.onDay(day - 1);
        roof.begin(100, 2);
        roof.set(0, 6);
        Setup.buyWhole(roof, 8, 2);
        roof.course(8);
        roof.lay(2);
        roof.pass(2);
        return roof;
    }

    private static SlateRoof withoutFirst() {
        return twoPlaces(5);
    }

    private static SlateRoof withoutLast() {
        return twoPlaces(1);
    }

    private static SlateRoof gapsAtBothEnds() {
        SlateRoof roof = Roofs.wide(2);
        roof.pass(0);
        roof.pass(0);
        roof.pass(2);
        return roof;
    }

    private static void lies() {
        Edge.of("Promise 18", "Tells whether a slate lies at a place.");
        Edge.onlyLooks("lies", Roofs::busy, r -> r.lies(0, 3) ? 1 : 0);
        Edge.of("Promise 18", "- `course`: number of the course");
        Edge.same("0.0", Roofs.busy().lies(0, 0), true);
        Edge.same("1.0", Roofs.busy().lies(1, 0), true);
        Edge.of("Promise 18", "- `place`: the place");
        Edge.same("0.5", Roofs.busy().lies(0, 5), true);
        Edge.same("1.6", Roofs.busy().lies(1, 6), false);
        Edge.same("1.30", Roofs.wide(2).lies(1, 30), true);
        Edge.same("1.30, fallen", gapsAtBothEnds().lies(1, 30), false);
        Edge.of("Promise 18", "Returns whether there is one.");
        for (int place = 0; place < 6; place++) {
            Edge.same("0." + place, Roofs.busy().lies(0, place), place != 3);
        }
        Edge.of("Promise 18", "Throws `IndexOutOfBoundsException` if there is no such course or place");
        int[][] outside = {{-1, 0}, {2, 0}, {0, -1}, {0, 6}, {1, -1}, {1, 7}, {0, 32}, {1, 33}, {LEAST, 0}, {MOST, 0},
            {0, LEAST}, {0, MOST}, {100, 0}};
        for (int[] one : outside) {
            Edge.badIndex(one[0] + "." + one[1], Roofs::busy, r -> r.lies(one[0], one[1]) ? 1 : 0);
        }
        Edge.badIndex("no course at all", SlateRoof::new, r -> r.lies(0, 0) ? 1 : 0);
        Edge.badIndex("0.30 of 30", () -> Roofs.wide(2), r -> r.lies(0, 30) ? 1 : 0);
        Edge.badIndex("1.31 of 31", () -> Roofs.wide(2), r -> r.lies(1, 31) ? 1 : 0);
    }

    private static void slates() {
        Edge.of("Promise 19", "Returns how many slates of a length there are.");
        Edge.onlyLooks("slates", Roofs::busy, r -> r.slates(20, 2));
        Edge.of("Promise 19", "- `length`: 8 to 24");
        Edge.answers("8", SlateRoof::new, r -> r.slates(8, 4), 4);
        Edge.answers("24", SlateRoof::new, r -> r.slates(24, 4), 36);
        Edge.of("Promise 19", "- `what`: 0: in stock; 1: broken ones on the heap; 2: on the roof; 3: bought in all");
        int[] of20 = {3, 1, 5, 9, 25};
        int[] of16 = {5, 2, 5, 12, 16};
        int[] of24 = {0, 2, 0, 2, 36};
        for (int what = 0; what <= 4; what++) {
            int which = what;
            Edge.answers("20, " + which, Roofs::busy, r -> r.slates(20, which), of20[which]);
            Edge.answers("16, " + which, Roofs::busy, r -> r.slates(16, which), of16[which]);
            Edge.answers("24, " + which, Roofs::busy, r -> r.slates(24, which), of24[which]);
        }
        SlateRoof cut = Roofs.busy();
        cut.recut(24, 20, 2);
        Edge.same("cut: in stock of the new length", cut.slates(20, 0), 5);
        Edge.same("cut: bought of the new length", cut.slates(20, 3), 9);
        Edge.same("cut: bought of the old length", cut.slates(24, 3), 2);
        cut.begin(100, 6);
        Edge.same("elder roofs: on the roof", cut.slates(20, 2), 0);
        Edge.of("Promise 19", "Returns the number.");
        Edge.answers("none", SlateRoof::new, r -> r.slates(8, 0), 0);
        Edge.answers("5000", () -> Roofs.bought(200), r -> r.slates(8, 3), 5000);
        Edge.of("Promise 19", "Throws `IllegalArgumentException` if length or what is out of range");
        int[][] outside = {{7, 0}, {25, 0}, {8, -1}, {24, 5}, {7, 5}, {LEAST, 0}, {MOST, 0}, {20, LEAST}, {20, MOST}};
        for (int[] one : outside) {
            Edge.badArgument(one[0] + ", " + one[1], Roofs::busy, r -> r.slates(one[0], one[1]));
        }
    }

    private static void count() {
        Edge.of("Promise 20", "Returns a number.");
        Edge.onlyLooks("count", Roofs::busy, r -> r.count(5));
        Edge.of("Promise 20", "- `what`: 0: height; 1: width; 2: courses; 3: the top of the last course, 0 without");
        int[] fresh = {100, 6, 0, 0, 0, 0, 0, 0, 20, 0, 0, 0, 0, 0, 0, 0, 0, 0, 0};
        int[] busy = {100, 6, 2, 14, 10, 3, 0, 3, 20, 0, 0, 23, 8, 5, 0, 0, 0, 9 * 25 + 12 * 16 + 2 * 36, 6};
        int[] done = {20, 4, 2, 20, 9, 0, 1, 0, 11, 0, 0, 9, 0, 0, 0, 0, 0, 9 * 36, 6};
        for (int what = 0; what <= 18; what++) {
            int which = what;
            Edge.answers("new, " + which, SlateRoof::new, r -> r.count(which), fresh[which]);
            Edge.answers("with gaps, " + which, Roofs::busy, r -> r.count(which), busy[which]);
            Edge.answers("done, " + which, () -> Roofs.twoOf24(20), r -> r.count(which), done[which]);
        }
        SlateRoof roof = Roofs.withDamp(Roofs.busy(), 5);
        roof.cover(true);
        roof.recut(24, 20, 1);
        roof.recut(24, 8, 1);
        roof.clearHeap(17);
        roof.clearHeap(25);
        roof.begin(20, 2);
        int[] later = {20, 2, 0, 0, 0, 0, 0, 4, 20, 5, 1, 23, 10, 0, 2, 3, 10, 489, 6};
        for (int what = 0; what <= 18; what++) {
            Edge.same("later, " + what, roof.count(what), later[what]);
        }
        Edge.of("Promise 20", "Returns the number.");
        Edge.answers("the greatest height", () -> Roofs.wide(1), r -> r.count(0), 400);
        Edge.answers("all bought slates cost", () -> Roofs.bought(200), r -> r.count(17), 5000 * 4);
        Edge.of("Promise 20", "Throws `IllegalArgumentException` if what is not 0 to 18");
        int[] outside = {-1, 19, LEAST, MOST};
        for (int what : outside) {
            Edge.badArgument("what " + what, Roofs::busy, r -> r.count(what));
        }
    }

    private static void setting() {
        Edge.of("Promise 21", "Returns a setting.");
        Edge.onlyLooks("setting", Roofs::busy, r -> r.setting(0));
        Edge.of("Promise 21", "- `setting`: 0 to 2");
        int[] first = {4, 20, 2};
        for (int setting = 0; setting <= 2; setting++) {
            int which = setting;
            Edge.answers("setting " + which, Roofs::busy, r -> r.setting(which), first[which]);
        }
        Edge.of("Promise 21", "Returns its value.");
        int[][] inside = {{0, 2}, {0, 6}, {1, 1}, {1, 60}, {2, 1}, {2, 5}};
        for (int[] one : inside) {
            Edge.after("setting " + one[0], SlateRoof::new, r -> r.set(one[0], one[1]), r -> r.setting(one[0]), one[1]);
        }
        Edge.of("Promise 21", "Throws `IndexOutOfBoundsException` if there is no such setting");
        int[] outside = {-1, 3, LEAST, MOST};
        for (int setting : outside) {
            Edge.badIndex("setting " + setting, Roofs::busy, r -> r.setting(setting));
        }
    }

    private static void toTop(String what, Edge.Maker maker, int length, int courses, int places) {
        Edge.answers(what + ": courses of " + length, maker, r -> r.toTop(length, 0), courses);
        Edge.answers(what + ": places of " + length, maker, r -> r.toTop(length, 1), places);
    }

    private static Edge.Maker size(int height, int width) {
        return () -> {
            SlateRoof roof = new SlateRoof();
            roof.begin(height, width);
            return roof;
        };
    }

    /** Two courses of 23 with gauges of 10 each, on a width of 4. */
    private static SlateRoof twoOf23(int height) {
        SlateRoof roof = new SlateRoof();
        roof.begin(height, 4);
        roof.set(0, 2);
        Setup.buyWhole(roof, 23, 4);
        roof.course(23);
        roof.lay(4);
        roof.course(23);
        return roof;
    }

    private static void toTops() {
        Edge.of("Promise 22", "Tells what it takes to finish the roof upward, if all further courses had one length.");
        Edge.onlyLooks("toTop", Roofs::busy, r -> r.toTop(8, 1));
        toTop("above an odd number of courses", () -> Roofs.above(16, 16, 0), 8, 47, 47 * 4 + 24);
        toTop("places without a slate do not matter", Roofs::busy, 8, 43, 43 * 6 + 21);
        Edge.of("Promise 22", "- `length`: 8 to 24");
        toTop("the least length", size(20, 2), 8, 10, 20 + 5);
        toTop("the greatest length", size(20, 2), 24, 2, 4 + 1);
        Edge.of("Promise 22", "- `what`: 0: further courses until the top is at least the height; 1: places that they");
        toTop("1 less than 10 gauges", size(99, 6), 24, 10, 60 + 5);
        toTop("as high as 10 gauges", size(100, 6), 24, 10, 60 + 5);
        toTop("1 more than 10 gauges", size(101, 6), 24, 11, 66 + 5);
        toTop("1 more than 11 gauges", size(111, 6), 24, 12, 72 + 6);
        toTop("1 below the height", () -> Roofs.twoOf24(21), 24, 1, 4);
        toTop("at the height", () -> Roofs.twoOf24(20), 24, 0, 0);
        Edge.of("Promise 22", "Returns the number; NONE if length is greater than that of the last course (also if");
        toTop("no last course", size(20, 2), 24, 2, 5);
        toTop("as long as the last course", () -> twoOf23(21), 23, 1, 4);
        toTop("longer than the last course", () -> twoOf23(21), 24, NONE, NONE);
        toTop("at the height, as long", () -> twoOf23(20), 23, 0, 0);
        toTop("at the height, shorter", () -> twoOf23(20), 8, 0, 0);
        toTop("at the height, longer", () -> twoOf23(20), 24, NONE, NONE);
        toTop("100 courses are there", () -> Roofs.tower(100), 8, 150, 150 * 2 + 75);
        toTop("99 courses are there", () -> Roofs.tower(99), 8, 151, 151 * 2 + 76);
        Edge.of("Promise 22", "otherwise the number of the courses does not matter.");
        toTop("400 courses", () -> lapped(size(400, 30).make(), 6), 8, 400, 400 * 30 + 200);
        toTop("101 courses", () -> lapped(size(101, 2).make(), 6), 9, 101, 202 + 50);
        Edge.of("Promise 22", "Throws `IllegalArgumentException` if length or what is out of range");
        int[][] outside = {{7, 0}, {25, 0}, {8, -1}, {8, 2}, {24, 2}, {LEAST, 0}, {MOST, 1}, {8, LEAST}, {8, MOST}};
        for (int[] one : outside) {
            Edge.badArgument(one[0] + ", " + one[1], Roofs::busy, r -> r.toTop(one[0], one[1]));
        }
        Edge.badArgument("25 at the height", () -> Roofs.twoOf24(20), r -> r.toTop(25, 0));
    }

    private static SlateRoof lapped(SlateRoof roof, int lap) {
        roof.set(0, lap);
        return roof;
    }

    private static SlateRoof stocked(SlateRoof roof, int length, int many) {
        Setup.buyWhole(roof, length, many);
        return roof;
    }

    private static void reach(String what, Edge.Maker maker, int... due) {
        for (int number = 0; number < 4; number++) {
            int which = number;
            Edge.answers(what + ", " + which, maker, r -> r.reach(which), due[which]);
        }
    }

    private static void reaches() {
        Edge.of("Promise 23", "course by course takes the greatest length (at most that of the course below it) of");
        Edge.onlyLooks("reach", () -> Roofs.pair(20, 20), r -> r.reach(2));
        reach("5 for 6 places", () -> stocked(new SlateRoof(), 24, 5), 0, 0, 5, NONE);
        reach("6 for 6 places", () -> stocked(new SlateRoof(), 24, 6), 1, 10, 0, 24);
        reach("12 for 6 and 7 places", () -> stocked(new SlateRoof(), 24, 12), 1, 10, 6, 24);
        reach("13 for 6 and 7 places", () -> stocked(new SlateRoof(), 24, 13), 2, 20, 0, 24);
        reach("longer than below", () -> Roofs.above(16, 17, 9), 0, 6, 9, NONE);
        reach("as long as below", () -> Roofs.above(16, 16, 5), 1, 12, 0, 16);
        reach("4 for 5 places", () -> Roofs.above(16, 16, 4), 0, 6, 4, NONE);
        reach("the least length", () -> Roofs.above(16, 8, 5), 1, 8, 0, 8);
        reach("the greatest first", () -> stocked(Roofs.above(16, 8, 5), 15, 5), 2, 13, 1, 8);
        reach("shorter ones above", () -> stocked(Roofs.above(16, 8, 4), 15, 5), 2, 13, 0, 8);
        reach("until the height", () -> stocked(size(20, 4).make(), 24, 30), 2, 20, 30 - 9, 24);
        reach("1 more than two gauges", () -> stocked(size(21, 4).make(), 24, 30), 3, 30, 30 - 13, 24);
        reach("at the height", () -> stocked(Roofs.twoOf24(20), 24, 9), 0, 20, 9, NONE);
        reach("1 below the height", () -> stocked(Roofs.twoOf24(21), 24, 9), 1, 30, 5, 24);
        reach("99 courses", () -> stocked(Roofs.tower(99), 8, 10), 1, 100, 7, 8);
        reach("100 courses", () -> stocked(Roofs.tower(100), 8, 10), 0, 100, 10, NONE);
        reach("the cover does not matter", () -> Roofs.covered(Roofs.above(16, 16, 5)), 1, 12, 0, 16);
        reach("nor the damp", () -> Roofs.withDamp(Roofs.above(16, 16, 5), 5), 1, 12, 0, 16);
        reach("nor the effort", () -> Roofs.withEffort(Roofs.above(16, 16, 5), 1), 1, 12, 0, 16);
        Edge.of("Promise 23", "(Places without a slate of courses that are there do not matter.)");
        reach("three of them", () -> stocked(Roofs.pair(0, 0), 12, 6), 1, 18, 0, 12);
        reach("their slates are not taken", () -> Roofs.pair(0, 6), 1, 20, 0, 16);
        reach("a whole course of them", () -> stocked(withCourse(24), 24, 7), 1, 20, 0, 24);
        Edge.of("Promise 23", "- `what`: 0: how many courses are added; 1: the top then; 2: the slates that are left");
        reach("nothing", SlateRoof::new, 0, 0, 0, NONE);
        Edge.of("Promise 23", "Returns the number.");
        reach("all lengths are left", () -> stocked(Roofs.above(16, 24, 3), 8, 4), 0, 6, 7, NONE);
        Edge.of("Promise 23", "Throws `IllegalArgumentException` if what is not 0 to 3");
        int[] outside = {-1, 4, LEAST, MOST};
        for (int what : outside) {
            Edge.badArgument("what " + what, Roofs::busy, r -> r.reach(what));
        }
    }

    /** Width 2, lap 4, pace 1, so many slates of 8: each two gauges of height take 2 or 3 slates, one a day. */
    private static SlateRoof slow(int height, int many) {
        SlateRoof roof = size(height, 2).make();
        roof.set(1, 1);
        return stocked(roof, 8, many);
    }

    private static SlateRoof nineOf24(int pace) {
        SlateRoof roof = stocked(Setup.small(), 24, 9);
        roof.set(1, pace);
        return roof;
    }

    private static void dryDays(String what, Edge.Maker maker, int due) {
        Edge.answers(what, maker, SlateRoof::dryDays, due);
    }

    private static void dryDays() {
        Edge.of("Promise 24", "Tells how many dry days the slaters would need to finish the roof as told for texts,");
        Edge.onlyLooks("dryDays", () -> nineOf24(5), SlateRoof::dryDays);
        dryDays("9 slates, pace 9", () -> nineOf24(9), 1);
        dryDays("9 slates, pace 8", () -> nineOf24(8), 2);
        dryDays("9 slates, pace 1", () -> nineOf24(1), 9);
        dryDays("8 slates for 9 places", () -> stocked(Setup.small(), 24, 8), NONE);
        dryDays("under the cover", () -> Roofs.covered(nineOf24(9)), 1);
        dryDays("damp for 1 day", () -> Roofs.withDamp(nineOf24(9), 1), 1);
        dryDays("damp for 2 days", () -> Roofs.withDamp(nineOf24(9), 2), 2);
        dryDays("damp for 5 days, under the cover", () -> Roofs.covered(Roofs.withDamp(nineOf24(9), 5)), 5);
        dryDays("mended with 3, laid with 1", () -> Roofs.withEffort(Roofs.stormed(2), 4), 1);
        dryDays("mended with 3, laid with another 1", () -> Roofs.withEffort(Roofs.stormed(2), 3), 2);
        dryDays("not mended with 2", () -> Roofs.withEffort(Roofs.stormed(2), 2), NONE);
        dryDays("one slate for two gaps", () -> Roofs.stormed(1), NONE);
        Edge.of("Promise 24", "Returns how many dry days pass until the roof is done (0 if it is done now), at most");
        dryDays("done", () -> Roofs.twoOf24(20), 0);
        dryDays("done, under the cover", () -> Roofs.covered(Roofs.twoOf24(20)), 0);
        dryDays("done, damp", ViewEdges::doneAndDamp, 0);
        dryDays("199 slates", ViewEdges::lessOne, 199);
        dryDays("200 slates", () -> slow(160, 200), 200);
        dryDays("200 slates, dry after 1 day", () -> Roofs.withDamp(slow(160, 200), 1), 200);
        dryDays("200 slates, dry after 2 days", () -> Roofs.withDamp(slow(160, 200), 2), NONE);
        dryDays("202 slates", () -> slow(161, 202), NONE);
        dryDays("200 slates for 202 places", () -> slow(161, 200), NONE);
        dryDays("none on the last day, either", ViewEdges::lastDay, 1);
        dryDays("100 courses are not enough", () -> stocked(Roofs.tower(99), 8, 30), NONE);
        dryDays("the hundredth course is", ViewEdges::lowerTower, 1);
        dryDays("new", SlateRoof::new, NONE);
    }

    /** slow() with 199 places left: one slate is laid. */
    private static SlateRoof lessOne() {
        SlateRoof roof = slow(160, 200);
        roof.course(8);
        roof.lay(1);
        return roof;
    }

    private static SlateRoof doneAndDamp() {
        SlateRoof roof = Roofs.withDamp(Roofs.twoOf24(21), 5);
        roof.set(0, 2);
        return roof;
    }

    private static SlateRoof lastDay() {
        SlateRoof roof = Roofs.onDay(1000);
        roof.begin(20, 4);
        return stocked(roof, 24, 9);
    }

    /** 99 courses of gauge 1 below a height of 100, with slates for one more course. */
    private static SlateRoof lowerTower() {
        SlateRoof roof = size(100, 2).make();
        roof.set(0, 6);
        roof.set(1, 60);
        stocked(roof, 8, 247);
        Setup.work(roof, "d5");
        return stocked(roof, 8, 3);
    }

    private static void bestLength() {
        Edge.of("Promise 25", "Finds the length of which it would be best to buy.");
        Edge.onlyLooks("bestLength", Roofs::busy, SlateRoof::bestLength);
        Edge.answers("new", SlateRoof::new, SlateRoof::bestLength, 8);
        Edge.of("Promise 25", "Returns the length, 8 to 24, at most that of the last course, with which toTop() tells");
        Edge.answers("8 and 10 for 312 each", size(23, 6), SlateRoof::bestLength, 10);
        Edge.answers("8 for 78 places of 4", size(23, 6), r -> r.toTop(8, 1) * r.slates(8, 4), 312);
        Edge.answers("10 for 52 places of 6", size(23, 6), r -> r.toTop(10, 1) * r.slates(10, 4), 312);
        Edge.answers("10, 12 and 14 for 468 each", () -> lapped(size(23, 6).make(), 6), SlateRoof::bestLength, 14);
        Edge.answers("at most 14", () -> topped(14), SlateRoof::bestLength, 10);
        Edge.answers("at most 8", () -> topped(8), SlateRoof::bestLength, 8);
        Edge.answers("the height is reached", () -> Roofs.twoOf24(20), SlateRoof::bestLength, NONE);
        Edge.answers("1 more than the top", () -> Roofs.twoOf24(21), SlateRoof::bestLength, 8);
        Edge.answers("reached, with gaps", () -> Roofs.stormed(2), SlateRoof::bestLength, NONE);
        Edge.answers("400 courses", () -> lapped(size(400, 30).make(), 6), SlateRoof::bestLength, 14);
    }

    /** Width 6, height 23, lap 6, one course of this length. */
    private static SlateRoof topped(int length) {
        SlateRoof roof = lapped(size(23, 6).make(), 6);
        roof.course(length);
        return roof;
    }

    /** So many slates of 9 laid, for 5 each, and one broken one of 24 for 36. */
    private static SlateRoof dear(int laid) {
        SlateRoof roof = stocked(new SlateRoof(), 9, 6);
        Setup.buyBroken(roof, 24, 1);
        roof.course(9);
        if (laid > 0) {
            roof.lay(laid);
        }
        return roof;
    }

    /** Eight slates of 8, for 4 each, and so many of them laid. */
    private static SlateRoof laid(int many) {
        SlateRoof roof = stocked(size(20, 8).make(), 8, 8);
        roof.course(8);
        roof.lay(many);
        return roof;
    }

    private static void meanPrice() {
        Edge.of("Promise 26", "Returns what a slate on the roof costs.");
        Edge.onlyLooks("meanPrice", () -> dear(5), r -> (long) r.meanPrice());
        Edge.sameDouble("66 / 6", dear(6).meanPrice(), 11.0);
        Edge.of("Promise 26", "Returns count(17), as a double, divided by the slates on this roof and on elder roofs;");
        Edge.sameDouble("new", new SlateRoof().meanPrice(), 0.0);
        Edge.sameDouble("none laid", dear(0).meanPrice(), 0.0);
        Edge.sameDouble("none bought, none laid", withCourse(8).meanPrice(), 0.0);
        Edge.sameDouble("one laid", dear(1).meanPrice(), 66.0);
        Edge.sameDouble("not rounded down", dear(4).meanPrice(), 16.5);
        Edge.sameDouble("nor to a short number", dear(5).meanPrice(), 66.0 / 5.0);
        SlateRoof roof = dear(4);
        roof.begin(100, 6);
        Edge.sameDouble("only on an elder roof", roof.meanPrice(), 16.5);
        roof.course(9);
        roof.lay(2);
        Edge.sameDouble("on both", roof.meanPrice(), 11.0);
        SlateRoof fallen = dear(2);
        fallen.pass(2);
        Edge.sameDouble("fallen ones do not lie there", fallen.meanPrice(), 66.0);
        SlateRoof all = twoPlaces(1);
        for (int day = 2; day <= 5; day++) {
            all.pass(2);
        }
        Edge.sameDouble("all have fallen", all.meanPrice(), 0.0);
    }

    /** The list of promise 27, and its hash without overflow: all in great numbers, cut to 64 bits in the end. */
    private static long listed(SlateRoof roof, String buffer) {
        List<Long> values = new ArrayList<>();
        for (int what = 0; what <= 18; what++) {
            values.add((long) roof.count(what));
        }
        for (int setting = 0; setting <= 2; setting++) {
            values.add((long) roof.setting(setting));
        }
        for (int length = 8; length <= 24; length++) {
            for (int what = 0; what <= 3; what++) {
                values.add((long) roof.slates(length, what));
            }
            values.add((long) roof.toTop(length, 0));
            values.add((long) roof.toTop(length, 1));
        }
        for (int course = 0; course < roof.count(2); course++) {
            for (int what = 0; what <= 6; what++) {
                values.add((long) roof.courseOf(course, what));
            }
            for (int place = 0; place < roof.courseOf(course, 1); place++) {
                values.add(roof.lies(course, place) ? 1L : 0L);
            }
        }
        for (int what = 0; what <= 3; what++) {
            values.add((long) roof.reach(what));
        }
        values.add((long) roof.dryDays());
        values.add((long) roof.bestLength());
        values.add(Double.doubleToLongBits(roof.meanPrice()));
        values.add((long) buffer.length());
        for (char sign : buffer.toCharArray()) {
            values.add((long) sign);
        }
        BigInteger hash = BigInteger.valueOf(2273);
        for (long value : values) {
            hash = hash.multiply(BigInteger.valueOf(31)).add(BigInteger.valueOf(value));
        }
        return hash.longValue();
    }

    private static void digest(String what, Edge.Maker maker, String buffer) {
        Edge.same(what, Roofs.written(maker.make(), buffer).digest(), listed(maker.make(), buffer));
    }

    private static void digests() {
        Edge.of("Promise 27", "Computes a hash of the whole state.");
        Edge.onlyLooks("digest", Roofs::busy, SlateRoof::digest);
        digest("gaps", Roofs::busy, "d2");
        Edge.of("Promise 27", "The hash starts at 2273.");
        digest("new", SlateRoof::new, "");
        Edge.of("Promise 27", "the hash becomes 31 * hash + v, in long arithmetic with overflow.");
        digest("5000 slates", () -> Roofs.bought(200), "");
        Edge.of("Promise 27", "The values are: count(0) to count(18); the settings 0 to 2; for each length 8 to 24:");
        digest("no courses", size(20, 30), "");
        digest("three courses", () -> Roofs.wide(3), "");
        digest("31 places with gaps", ViewEdges::gapsAtBothEnds, "");
        digest("100 courses", () -> stocked(Roofs.tower(100), 8, 10), "");
        digest("done", () -> Roofs.twoOf24(20), "");
        digest("after day 1000", () -> Roofs.onDay(1000), "");
        digest("one sign", SlateRoof::new, "!");
        digest("another sign", SlateRoof::new, "~");
        digest("60 signs", SlateRoof::new, "d".repeat(59) + "1");
        for (int laid = 0; laid <= 6; laid++) {
            int many = laid;
            digest("the bits of 66 / " + laid, () -> dear(many), "");
        }
        for (int laid = 1; laid <= 8; laid *= 2) {
            int many = laid;
            digest("the bits of 32 / " + laid, () -> laid(many), "");
        }
        Edge.of("Promise 27", "Returns the hash.");
        Edge.same("the buffer cleared", cleared().digest(), listed(Roofs.busy(), ""));
    }

    private static SlateRoof cleared() {
        SlateRoof roof = Roofs.busy();
        roof.clearBuffer();
        return roof;
    }

    static void all() {
        courseOf();
        lies();
        slates();
        count();
        setting();
        toTops();
        reaches();
        dryDays();
        bestLength();
        meanPrice();
        digests();
    }
}
