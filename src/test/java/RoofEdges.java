import java.math.BigInteger;

/** The edges that the document's terms name: the roof, the slates and the days. */
final class RoofEdges {
    private static final String ROOF = "The roof";
    private static final String SLATES = "Slates";
    private static final String DAYS = "Days";

    private RoofEdges() {
    }

    private static void heightAndWidth() {
        Edge.of(ROOF, "A roof has a height, 20 to 400, at first 100, and a width, 2 to 30, at first 6.");
        Edge.answers("new: height", SlateRoof::new, r -> r.count(0), 100);
        Edge.answers("new: width", SlateRoof::new, r -> r.count(1), 6);
        int[][] inside = {{20, 2}, {20, 30}, {400, 2}, {400, 30}};
        for (int[] size : inside) {
            SlateRoof roof = new SlateRoof();
            roof.begin(size[0], size[1]);
            Edge.same("height " + size[0], roof.count(0), size[0]);
            Edge.same("width " + size[1], roof.count(1), size[1]);
        }
        int[][] outside = {{19, 2}, {401, 30}, {20, 1}, {400, 31}};
        for (int[] size : outside) {
            Edge.badArgument("begin " + size[0] + ", " + size[1], Roofs::busy, r -> r.begin(size[0], size[1]));
        }
    }

    private static void courseNumbers() {
        Edge.of(ROOF, "numbered from 0; at most 100.");
        Edge.answers("the first course", SlateRoof::new, r -> r.course(8), 0);
        SlateRoof roof = Roofs.tower(99);
        Edge.same("99 courses", roof.count(2), 99);
        Edge.same("the hundredth course", roof.course(8), 99);
        Edge.same("100 courses", roof.count(2), 100);
        Edge.badState("the course 101", () -> Roofs.tower(100), r -> r.course(8));
        Edge.answers("the lowest number", () -> Roofs.tower(100), r -> r.courseOf(0, 4), 1);
        Edge.answers("the highest number", () -> Roofs.tower(100), r -> r.courseOf(99, 4), 100);
        Edge.badIndex("below the lowest", () -> Roofs.tower(100), r -> r.courseOf(-1, 4));
        Edge.badIndex("above the highest", () -> Roofs.tower(100), r -> r.courseOf(100, 4));
    }

    private static void courseLengths() {
        Edge.of(ROOF, "A course has a length, that of its slates, 8 to 24, at most that of the course below it.");
        SlateRoof shortest = new SlateRoof();
        shortest.course(8);
        Edge.same("length 8", shortest.courseOf(0, 0), 8);
        SlateRoof longest = new SlateRoof();
        longest.course(24);
        Edge.same("length 24", longest.courseOf(0, 0), 24);
        Edge.badArgument("length 7", SlateRoof::new, r -> r.course(7));
        Edge.badArgument("length 25", SlateRoof::new, r -> r.course(25));
        Edge.answers("as long as below", () -> Roofs.above(16, 16, 0), r -> r.course(16), 1);
        Edge.answers("shorter than below", () -> Roofs.above(16, 16, 0), r -> r.course(15), 1);
        Edge.badState("longer than below", () -> Roofs.above(16, 16, 0), r -> r.course(17));
        Edge.answers("the length of its slates", () -> Roofs.above(16, 15, 3), r -> r.slates(16, 2), 4);
    }

    private static void coursePlaces() {
        Edge.of(ROOF, "It has as many places as the width tells, if its number is even, and 1 more, if it is odd");
        int[] due = {2, 3, 2};
        for (int course = 0; course < 3; course++) {
            int number = course;
            Edge.answers("width 2, course " + number, () -> Roofs.tower(100), r -> r.courseOf(number, 1), due[course]);
            Edge.answers("width 30, course " + number, () -> Roofs.wide(3), r -> r.courseOf(number, 1),
                    due[course] + 28);
        }
        Edge.answers("course 98", () -> Roofs.tower(100), r -> r.courseOf(98, 1), 2);
        Edge.answers("course 99", () -> Roofs.tower(100), r -> r.courseOf(99, 1), 3);

        Edge.of(ROOF, "they are numbered from 0.");
        SlateRoof roof = Roofs.wide(2);
        Edge.same("0.0", roof.lies(0, 0), true);
        Edge.same("0.29", roof.lies(0, 29), true);
        Edge.same("1.30", roof.lies(1, 30), true);
        Edge.badIndex("0.-1", () -> Roofs.wide(2), r -> r.lies(0, -1) ? 1 : 0);
        Edge.badIndex("0.30", () -> Roofs.wide(2), r -> r.lies(0, 30) ? 1 : 0);
        Edge.badIndex("1.31", () -> Roofs.wide(2), r -> r.lies(1, 31) ? 1 : 0);

        Edge.of(ROOF, "At each place lies a slate, or there is none.");
        for (int place = 0; place <= 6; place++) {
            Edge.same("1." + place, Roofs.pair(0, 0).lies(1, place), place != 1 && place != 6);
        }
    }

    private static void gauges() {
        Edge.of(ROOF, "The gauge of a course is (its length - the lap) / 2, with the lap as it is now.");
        int[] lengths = {8, 9, 23, 24};
        int[][] byLap = {{3, 3, 10, 11}, {2, 3, 10, 10}, {2, 2, 9, 10}, {1, 2, 9, 9}, {1, 1, 8, 9}};
        for (int number = 0; number < lengths.length; number++) {
            SlateRoof roof = new SlateRoof();
            roof.course(lengths[number]);
            for (int lap = 2; lap <= 6; lap++) {
                roof.set(0, lap);
                Edge.same("length " + lengths[number] + ", lap " + lap, roof.courseOf(0, 3), byLap[lap - 2][number]);
            }
        }

        Edge.of("Terms", "All numbers are integers; divisions are rounded down.");
        SlateRoof roof = new SlateRoof();
        roof.course(9);
        Edge.same("gauge 5 / 2", roof.courseOf(0, 3), 2);
        Edge.same("price 81 / 16", roof.slates(9, 4), 5);
        Edge.same("price 121 / 16", roof.slates(11, 4), 7);

        Edge.of(ROOF, "The top of a course is the sum of the gauges of all courses up to it, with it.");
        SlateRoof pair = Roofs.pair(0, 0);
        Edge.same("the first", pair.courseOf(0, 4), 8);
        Edge.same("with the second", pair.courseOf(1, 4), 8 + 6);
        pair.set(0, 3);
        Edge.same("each gauge is rounded, not the sum", pair.courseOf(1, 4), 8 + 6);
        Edge.answers("100 gauges", () -> Roofs.tower(100), r -> r.courseOf(99, 4), 100);
    }

    private static void done() {
        Edge.of(ROOF, "The roof is done if the top of the last course is at least the height, and a slate lies at");
        Edge.answers("no course", SlateRoof::new, r -> r.count(6), 0);
        Edge.answers("top as high as the height", () -> Roofs.twoOf24(20), r -> r.count(6), 1);
        Edge.answers("top 1 below the height", () -> Roofs.twoOf24(21), r -> r.count(6), 0);
        SlateRoof roof = Roofs.twoOf24(21);
        roof.set(0, 2);
        Edge.same("top 1 above the height", roof.count(6), 1);
        roof.set(0, 4);
        Edge.same("top below it again", roof.count(6), 0);
        SlateRoof gaps = Roofs.stormed(2);
        Edge.same("two places without a slate", gaps.count(6), 0);
        gaps.lay(1);
        Edge.same("one in the lower course", gaps.count(6), 0);
        gaps.mend(0, 3);
        Edge.same("none", gaps.count(6), 1);
        SlateRoof last = Roofs.stormed(2);
        last.mend(0, 3);
        Edge.same("one in the last course", last.count(6), 0);
    }

    private static void stockAndHeap() {
        Edge.of(SLATES, "There are slates in stock by lengths, 8 to 24, and broken ones on the heap, by the length");
        for (int length = 8; length <= 24; length += 16) {
            int own = length;
            SlateRoof roof = new SlateRoof();
            Setup.buyWhole(roof, length, 3);
            Setup.buyBroken(roof, length, 2);
            for (int other = 8; other <= 24; other++) {
                Edge.same("stock of " + other, roof.slates(other, 0), other == own ? 3 : 0);
                Edge.same("heap of " + other, roof.slates(other, 1), other == own ? 2 : 0);
            }
        }
        Edge.badArgument("7 in stock", Roofs::busy, r -> r.slates(7, 0));
        Edge.badArgument("25 in stock", Roofs::busy, r -> r.slates(25, 0));
        Edge.badArgument("7 on the heap", Roofs::busy, r -> r.slates(7, 1));
        Edge.badArgument("25 on the heap", Roofs::busy, r -> r.slates(25, 1));
    }

    /** The seed after which the first slate's seed is this one. */
    private static int seedAhead(int next) {
        BigInteger all = BigInteger.ONE.shiftLeft(32);
        BigInteger inverse = BigInteger.valueOf(1103515245).modInverse(all);
        return BigInteger.valueOf(next).subtract(BigInteger.valueOf(12345)).multiply(inverse).intValue();
    }

    private static int brokenOf(int many, int firstSeed) {
        BigInteger seed = BigInteger.valueOf(firstSeed);
        int broken = 0;
        for (int slate = 0; slate < many; slate++) {
            seed = seed.multiply(BigInteger.valueOf(1103515245)).add(BigInteger.valueOf(12345));
            BigInteger bits = seed.shiftRight(16).mod(BigInteger.valueOf(32768));
            broken += bits.mod(BigInteger.TEN).signum() == 0 ? 1 : 0;
        }
        return broken;
    }

    private static void seeds() {
        Edge.of(SLATES, "if the bits 16 to 30 of seed (as a number from 0 to 32767) modulo 10 is 0.");
        int[][] bitsAndBroken = {{0, 1}, {1, 0}, {2, 0}, {8, 0}, {9, 0}, {10, 1}, {11, 0}, {20, 1}, {32759, 0},
            {32760, 1}, {32761, 0}, {32767, 0}};
        int[] otherBits = {0, 65535, 1 << 31, 1 << 31 | 65535};
        for (int[] one : bitsAndBroken) {
            for (int other : otherBits) {
                int seed = one[0] << 16 | other;
                Edge.answers("bits " + one[0] + " of " + seed, SlateRoof::new, r -> r.buy(8, 1, seedAhead(seed)),
                        one[1]);
            }
        }

        Edge.of(SLATES, "for each slate, seed becomes (seed * 1103515245 + 12345), in int arithmetic with overflow");
        int[] wild = {0, 1, -1, Integer.MAX_VALUE, Integer.MIN_VALUE, Integer.MIN_VALUE + 1, 1946, -1103515245};
        for (int seed : wild) {
            Edge.answers("200 from " + seed, SlateRoof::new, r -> r.buy(8, 200, seed), brokenOf(200, seed));
            Edge.answers("2 from " + seed, SlateRoof::new, r -> r.buy(8, 2, seed), brokenOf(2, seed));
        }

        Edge.of(SLATES, "It comes to the stock or to the heap.");
        for (int seed : wild) {
            SlateRoof roof = new SlateRoof();
            int broken = roof.buy(8, 200, seed);
            Edge.same("to the stock from " + seed, roof.slates(8, 0), 200 - broken);
            Edge.same("to the heap from " + seed, roof.slates(8, 1), broken);
        }
    }

    private static void prices() {
        Edge.of(SLATES, "A slate costs length * length / 16, broken or not.");
        int[] due = {4, 5, 6, 7, 9, 10, 12, 14, 16, 18, 20, 22, 25, 27, 30, 33, 36};
        for (int length = 8; length <= 24; length++) {
            int own = length;
            Edge.answers("price of " + own, SlateRoof::new, r -> r.slates(own, 4), due[own - 8]);
            SlateRoof roof = new SlateRoof();
            Setup.buyWhole(roof, length, 3);
            Edge.same("three whole ones of " + own, roof.count(17), 3 * due[own - 8]);
            Setup.buyBroken(roof, length, 2);
            Edge.same("two broken ones of " + own, roof.count(17), 5 * due[own - 8]);
        }
    }

    private static SlateRoof broken(int length) {
        SlateRoof roof = new SlateRoof();
        Setup.buyBroken(roof, length, 2);
        return roof;
    }

    private static void cutting() {
        Edge.of(SLATES, "A broken slate can be cut to a length that is at least 4 less than its own, but at least 8");
        int[][] inside = {{24, 20}, {24, 8}, {12, 8}, {13, 9}};
        for (int[] cut : inside) {
            SlateRoof roof = broken(cut[0]);
            roof.recut(cut[0], cut[1], 1);
            Edge.same("from the heap of " + cut[0], roof.slates(cut[0], 1), 1);
            Edge.same("to the stock of " + cut[1], roof.slates(cut[1], 0), 1);
        }
        int[][] outside = {{24, 21}, {24, 7}, {12, 9}, {12, 7}, {13, 10}, {11, 8}, {11, 7}, {8, 8}};
        for (int[] cut : outside) {
            Edge.badArgument(cut[0] + " to " + cut[1], () -> broken(cut[0]), r -> r.recut(cut[0], cut[1], 1));
        }
    }

    private static void settings() {
        Edge.of(DAYS, "0: the lap, 2 to 6, at first 4; 1: the pace, 1 to 60, at first 20; 2: the drying, 1 to 5, at");
        int[][] leastMostFirst = {{2, 6, 4}, {1, 60, 20}, {1, 5, 2}};
        for (int setting = 0; setting < 3; setting++) {
            int which = setting;
            int[] due = leastMostFirst[setting];
            Edge.answers("first of " + which, SlateRoof::new, r -> r.setting(which), due[2]);
            SlateRoof roof = new SlateRoof();
            roof.set(which, due[0]);
            Edge.same("least of " + which, roof.setting(which), due[0]);
            roof.set(which, due[1]);
            Edge.same("most of " + which, roof.setting(which), due[1]);
            Edge.badArgument("less of " + which, Roofs::busy, r -> r.set(which, due[0] - 1));
            Edge.badArgument("more of " + which, Roofs::busy, r -> r.set(which, due[1] + 1));
        }

        Edge.of(DAYS, "The day has a number, at first 0, and an effort that is left, at first the pace as it is at");
        SlateRoof roof = new SlateRoof();
        Edge.same("number", roof.count(7), 0);
        Edge.same("effort", roof.count(8), 20);
        roof.set(1, 60);
        Edge.same("the pace at the beginning counts", roof.count(8), 20);

        Edge.of(DAYS, "The deck is damp for some days, at first 0.");
        Edge.answers("damp", SlateRoof::new, r -> r.count(9), 0);
    }

    private static void canBeLaid() {
        Edge.of(DAYS, "Slates can be laid only if the cover is off and the deck is damp for 0 days.");
        for (int damp = 1; damp <= 5; damp += 4) {
            int days = damp;
            Edge.badState("course, damp " + days, () -> Roofs.withDamp(Roofs.above(16, 8, 0), days), r -> r.course(8));
            Edge.badState("lay, damp " + days, () -> Roofs.withDamp(Roofs.pair(3, 5), days), r -> r.lay(1));
            Edge.badState("mend, damp " + days, () -> Roofs.withDamp(Roofs.pair(3, 5), days), r -> r.mend(0, 3));
        }
        Edge.badState("course, cover", () -> Roofs.covered(Roofs.above(16, 8, 0)), r -> r.course(8));
        Edge.badState("lay, cover", () -> Roofs.covered(Roofs.pair(3, 5)), r -> r.lay(1));
        Edge.badState("mend, cover", () -> Roofs.covered(Roofs.pair(3, 5)), r -> r.mend(0, 3));
        Edge.badState("lay, cover and damp", () -> Roofs.covered(Roofs.withDamp(Roofs.pair(3, 5), 1)), r -> r.lay(1));
        SlateRoof roof = Roofs.covered(Roofs.withDamp(Roofs.pair(3, 5), 1));
        roof.pass(0);
        Edge.same("damp for 0 days", roof.count(9), 0);
        roof.cover(false);
        Edge.same("lay, dry without the cover", roof.lay(2), 7);
        Edge.same("mend, dry without the cover", roof.mend(0, 3), 15);
        Edge.same("course, dry without the cover", roof.course(16), 2);
    }

    private static void efforts() {
        Edge.of(DAYS, "Laying a slate in the last course takes an effort of 1, mending one (in any course) an effort");
        SlateRoof one = Roofs.withEffort(Roofs.pair(3, 5), 1);
        Edge.same("laying with 1", one.lay(1), 6);
        Edge.same("laid with 1, left", one.count(8), 0);
        one.pass(0);
        one.lay(1);
        Edge.same("a course with 0", one.course(16), 2);
        Edge.same("a course takes none", one.count(8), 0);
        Edge.badState("laying with 0", () -> withoutEffort(), r -> r.lay(1));
        Edge.badState("mending with 0", () -> withoutEffort(), r -> r.mend(0, 3));
        Edge.badState("mending with 2", () -> Roofs.withEffort(Roofs.pair(3, 5), 2), r -> r.mend(0, 3));
        Edge.badState("the last course with 2", () -> Roofs.withEffort(Roofs.pair(3, 5), 2), r -> r.mend(1, 6));
        Edge.answers("mending with 3", () -> Roofs.withEffort(Roofs.pair(3, 5), 3), r -> r.mend(0, 3), 0);
        Edge.answers("the last course with 3", () -> Roofs.withEffort(Roofs.pair(3, 5), 3), r -> r.mend(1, 6), 0);
        Edge.answers("mending with 4", () -> Roofs.withEffort(Roofs.pair(3, 5), 4), r -> r.mend(0, 3), 1);
    }

    /** pair() with one gap left in the last course, one below, and an effort of 0. */
    private static SlateRoof withoutEffort() {
        SlateRoof roof = Roofs.withEffort(Roofs.pair(3, 5), 1);
        roof.lay(1);
        return roof;
    }

    private static void weathers() {
        Edge.of(DAYS, "A day passes with a weather: 0 dry, 1 rain, 2 storm:");
        int[] fallen = {0, 0, 6};
        int[] damp = {0, 2, 2};
        for (int weather = 0; weather <= 2; weather++) {
            SlateRoof roof = Roofs.wide(1);
            roof.pass(0);
            Edge.same("slates that fall in weather " + weather, roof.pass(weather), fallen[weather]);
            Edge.same("damp after weather " + weather, roof.count(9), damp[weather]);
        }
        Edge.badArgument("weather -1", Roofs::busy, r -> r.pass(-1));
        Edge.badArgument("weather 3", Roofs::busy, r -> r.pass(3));

        Edge.of(DAYS, "- The number of the day increases by 1.");
        for (int weather = 0; weather <= 2; weather++) {
            SlateRoof roof = Roofs.pair(0, 0);
            roof.pass(weather);
            Edge.same("after day 3 in weather " + weather, roof.count(7), 4);
        }
        SlateRoof last = Roofs.onDay(999);
        last.pass(0);
        Edge.same("after day 999", last.count(7), 1000);

        Edge.of(DAYS, "- The effort that is left becomes the pace.");
        int[] paces = {1, 60};
        for (int pace : paces) {
            for (int weather = 0; weather <= 2; weather++) {
                SlateRoof roof = Roofs.covered(Roofs.pair(0, 0));
                roof.set(1, pace);
                Edge.same("not yet the pace " + pace, roof.count(8), 20);
                roof.pass(weather);
                Edge.same("the pace " + pace + " in weather " + weather, roof.count(8), pace);
            }
        }
    }

    private static void passed(String what, SlateRoof roof, int weather, int damp) {
        roof.pass(weather);
        Edge.same(what, roof.count(9), damp);
    }

    private static void dampDays() {
        Edge.of(DAYS, "the deck is damp for as many days as the drying tells; else, if it is dry, it is damp for 1");
        for (int weather = 1; weather <= 2; weather++) {
            SlateRoof roof = new SlateRoof();
            roof.set(2, 1);
            passed("the least drying", roof, weather, 1);
            passed("from 1 to 0", roof, 0, 0);
            passed("0 stays 0", roof, 0, 0);
            roof.set(2, 5);
            passed("the greatest drying", roof, weather, 5);
            passed("5 again, not 10", roof, weather, 5);
            passed("from 5 to 4", roof, 0, 4);
            roof.set(2, 3);
            passed("less than it was", roof, weather, 3);
            SlateRoof high = Roofs.twoOf24(21);
            passed("all places, but the top is 1 too low", high, weather, 2);
            SlateRoof gap = Roofs.stormed(1);
            passed("the top is high enough, but with gaps", gap, weather, 2);
        }

        Edge.of(DAYS, "(Rain or storm under the cover, or on a roof that is done ahead of what falls, leaves the days");
        for (int weather = 1; weather <= 2; weather++) {
            SlateRoof roof = Roofs.covered(new SlateRoof());
            passed("0 under the cover", roof, weather, 0);
            SlateRoof damp = Roofs.covered(Roofs.withDamp(new SlateRoof(), 3));
            passed("3 under the cover", damp, weather, 3);
            passed("a dry day under the cover", damp, 0, 2);
            SlateRoof done = Roofs.twoOf24(20);
            passed("0 on a done roof", done, weather, 0);
            SlateRoof late = Roofs.withDamp(Roofs.twoOf24(21), 3);
            late.set(0, 2);
            Edge.same("done while it is damp", late.count(6), 1);
            passed("3 on a done roof", late, weather, 3);
        }
        SlateRoof fallen = Roofs.twoOf24(20);
        passed("done ahead of what falls", fallen, 2, 0);
        Edge.same("but not done after it", fallen.count(6), 0);
        passed("not done ahead of it", fallen, 2, 2);
    }

    private static void storm(String what, SlateRoof roof, int ownRest, int belowRest) {
        int courses = roof.count(2);
        int due = 0;
        boolean[][] lay = new boolean[courses][31];
        for (int course = 0; course < courses; course++) {
            for (int place = 0; place < roof.courseOf(course, 1); place++) {
                boolean falls = course == courses - 1 && place % 5 == ownRest
                        || course == courses - 2 && place % 5 == belowRest;
                lay[course][place] = !falls;
                due += falls ? 1 : 0;
            }
        }
        Edge.same(what + ": fallen", roof.pass(2), due);
        for (int course = 0; course < courses; course++) {
            for (int place = 0; place < roof.courseOf(course, 1); place++) {
                Edge.same(what + ": " + course + "." + place, roof.lies(course, place), lay[course][place]);
            }
        }
    }

    private static void storms() {
        Edge.of(DAYS, "all that lie at a place p with p % 5 equal to the (new) number of the day % 5, and in the");
        int[] below = {2, 3, 4, 0, 1};
        for (int courses = 0; courses <= 3; courses++) {
            SlateRoof roof = Roofs.wide(courses);
            for (int day = 3; day <= 9; day++) {
                storm(courses + " courses, day " + day, roof, day % 5, below[day % 5]);
                roof.undo();
                roof.pass(0);
            }
        }
        SlateRoof last = Roofs.wide(2);
        Setup.work(last, "d99d98");
        for (int time = 0; time < 4; time++) {
            Setup.work(last, "d99d99d2");
        }
        Edge.same("the day before the last", last.count(7), 999);
        storm("day 1000", last, 0, 2);

        SlateRoof done = Roofs.twoOf24(20);
        Edge.same("also from a roof that is done", done.pass(2), 2);
        Edge.answers("not under the cover", () -> Roofs.covered(Roofs.wide(2)), r -> r.pass(2), 0);
        Edge.answers("not in the rain", () -> Roofs.wide(2), r -> r.pass(1), 0);
        SlateRoof gaps = Roofs.wide(1);
        gaps.pass(2);
        for (int day = 4; day <= 7; day++) {
            gaps.pass(0);
        }
        Edge.same("none falls twice", gaps.pass(2), 0);

        Edge.of(DAYS, "They come to the heap as broken ones of the length of their course.");
        SlateRoof heap = Roofs.pair(0, 0);
        Edge.same("one of the course of 20", heap.slates(20, 1), 1);
        Edge.same("two of the course of 16", heap.slates(16, 1), 2);
        Edge.same("no others", heap.count(13), 3);
    }

    static void all() {
        heightAndWidth();
        courseNumbers();
        courseLengths();
        coursePlaces();
        gauges();
        done();
        stockAndHeap();
        seeds();
        prices();
        cutting();
        settings();
        canBeLaid();
        efforts();
        weathers();
        dampDays();
        storms();
    }
}
