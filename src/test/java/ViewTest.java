/** Promises 17 to 27: what there is, and what would be. */
public final class ViewTest {
    /** Width 5, height 50: a full course of 20, one of 17 after a storm, and one of 12 with two slates. */
    private static SlateRoof mixed() {
        SlateRoof roof = new SlateRoof();
        roof.begin(50, 5);
        roof.set(0, 3);
        Setup.buyWhole(roof, 20, 5);
        Setup.buyWhole(roof, 17, 6);
        Setup.buyWhole(roof, 12, 10);
        roof.course(20);
        roof.lay(5);
        roof.course(17);
        roof.lay(6);
        roof.course(12);
        roof.pass(2);
        roof.pass(0);
        roof.pass(0);
        roof.lay(2);
        return roof;
    }

    private static void courseOf(SlateRoof roof, int course, int... due) {
        for (int what = 0; what < due.length; what++) {
            Check.same("courseOf " + course + ", " + what, roof.courseOf(course, what), due[what]);
        }
    }

    private static void promise17CourseOf() {
        SlateRoof roof = mixed();
        courseOf(roof, 0, 20, 5, 5, 8, 8, SlateRoof.NONE, SlateRoof.NONE);
        courseOf(roof, 1, 17, 6, 5, 7, 15, 3, 3);
        courseOf(roof, 2, 12, 5, 2, 4, 19, 2, 4);
        roof.set(0, 6);
        courseOf(roof, 1, 17, 6, 5, 5, 12, 3, 3);
        SlateRoof edges = new SlateRoof();
        edges.begin(100, 30);
        Setup.buyWhole(edges, 10, 30);
        edges.set(1, 30);
        Setup.work(edges, "d4");
        courseOf(edges, 0, 10, 30, 30, 3, 3, SlateRoof.NONE, SlateRoof.NONE);
        Check.same("courseOf: places 0, 5 to 25 fall", edges.pass(2), 6);
        courseOf(edges, 0, 10, 30, 24, 3, 3, 0, 25);
        SlateRoof corner = Setup.smallDone();
        Setup.work(corner, "d4");
        corner.pass(2);
        courseOf(corner, 1, 24, 5, 4, 10, 20, 0, 0);
        Check.badIndex("courseOf(3, 0)", roof, () -> roof.courseOf(3, 0));
        Check.badIndex("courseOf(-1, 0)", roof, () -> roof.courseOf(-1, 0));
        Check.badArgument("courseOf(0, -1)", roof, () -> roof.courseOf(0, -1));
        Check.badArgument("courseOf(2, 7)", roof, () -> roof.courseOf(2, 7));
        Check.badIndex("courseOf(3, 7): index first", roof, () -> roof.courseOf(3, 7));
        Check.badIndex("courseOf(greatest)", roof, () -> roof.courseOf(Integer.MAX_VALUE, Integer.MIN_VALUE));
        SlateRoof bare = new SlateRoof();
        Check.badIndex("courseOf without courses", bare, () -> bare.courseOf(0, 0));
    }

    private static void promise18Lies() {
        SlateRoof roof = mixed();
        Check.same("lies: 0, 4", roof.lies(0, 4), true);
        Check.same("lies: 1, 3", roof.lies(1, 3), false);
        Check.same("lies: 1, 5", roof.lies(1, 5), true);
        Check.same("lies: 2, 1", roof.lies(2, 1), true);
        Check.same("lies: 2, 2", roof.lies(2, 2), false);
        Check.badIndex("lies(0, 5): even courses have one less", roof, () -> roof.lies(0, 5));
        Check.badIndex("lies(1, 6)", roof, () -> roof.lies(1, 6));
        Check.badIndex("lies(3, 0)", roof, () -> roof.lies(3, 0));
        Check.badIndex("lies(-1, 0)", roof, () -> roof.lies(-1, 0));
        Check.badIndex("lies(0, -1)", roof, () -> roof.lies(0, -1));
        Check.badIndex("lies(0, 32)", roof, () -> roof.lies(0, 32));
        Check.badIndex("lies(greatest)", roof, () -> roof.lies(Integer.MAX_VALUE, Integer.MAX_VALUE));
    }

    private static void promise19Slates() {
        SlateRoof roof = mixed();
        int[] of17 = {0, 1, 5, 6, 18};
        int[] of12 = {8, 0, 2, 10, 9};
        int[] of8 = {0, 0, 0, 0, 4};
        int[] of24 = {0, 0, 0, 0, 36};
        for (int what = 0; what <= 4; what++) {
            Check.same("slates 17, " + what, roof.slates(17, what), of17[what]);
            Check.same("slates 12, " + what, roof.slates(12, what), of12[what]);
            Check.same("slates 8, " + what, roof.slates(8, what), of8[what]);
            Check.same("slates 24, " + what, roof.slates(24, what), of24[what]);
        }
        roof.recut(17, 12, 1);
        Check.same("slates: cut, in stock", roof.slates(12, 0), 9);
        Check.same("slates: cut, bought as 17", roof.slates(17, 3), 6);
        Check.same("slates: cut, bought as 12", roof.slates(12, 3), 10);
        SlateRoof two = new SlateRoof();
        two.begin(100, 2);
        Setup.buyWhole(two, 10, 5);
        two.course(10);
        two.lay(2);
        two.course(10);
        two.lay(3);
        Check.same("slates: in two courses", two.slates(10, 2), 5);
        two.begin(100, 2);
        Check.same("slates: on elder roofs", two.slates(10, 2), 0);
        Check.badArgument("slates(7, 0)", roof, () -> roof.slates(7, 0));
        Check.badArgument("slates(25, 0)", roof, () -> roof.slates(25, 0));
        Check.badArgument("slates(8, -1)", roof, () -> roof.slates(8, -1));
        Check.badArgument("slates(8, 5)", roof, () -> roof.slates(8, 5));
        Check.badArgument("slates(least)", roof, () -> roof.slates(Integer.MIN_VALUE, 0));
    }

    private static void promise20Count() {
        SlateRoof roof = mixed();
        Setup.buyBroken(roof, 24, 2);
        roof.recut(24, 12, 1);
        roof.clearHeap(18);
        int cost = 5 * 25 + 6 * 18 + 10 * 9 + 2 * 36;
        int[] due = {50, 5, 3, 19, 12, 4, 0, 3, 18, 0, 0, 23, 9, 1, 1, 1, 0, cost, 6};
        for (int what = 0; what < due.length; what++) {
            Check.same("count " + what, roof.count(what), due[what]);
        }
        roof.cover(true);
        Check.same("count: cover", roof.count(10), 1);
        roof.begin(20, 2);
        Check.same("count: elder roofs", roof.count(16), 12);
        Check.badArgument("count(-1)", roof, () -> roof.count(-1));
        Check.badArgument("count(19)", roof, () -> roof.count(19));
        SlateRoof done = Setup.smallDone();
        Check.same("count: done", done.count(6), 1);
        done.pass(2);
        Check.same("count: not done with gaps", done.count(6), 0);
        Check.same("count: high enough with gaps", done.count(3), 20);
    }

    private static void promise21Setting() {
        SlateRoof roof = new SlateRoof();
        roof.set(0, 3);
        roof.set(1, 33);
        roof.set(2, 5);
        Check.same("setting 0", roof.setting(0), 3);
        Check.same("setting 1", roof.setting(1), 33);
        Check.same("setting 2", roof.setting(2), 5);
        Check.badIndex("setting(-1)", roof, () -> roof.setting(-1));
        Check.badIndex("setting(3)", roof, () -> roof.setting(3));
        Check.badIndex("setting(least)", roof, () -> roof.setting(Integer.MIN_VALUE));
    }

    private static void promise22ToTop() {
        SlateRoof roof = new SlateRoof();
        Check.same("toTop(24, 0)", roof.toTop(24, 0), 10);
        Check.same("toTop(24, 1)", roof.toTop(24, 1), 65);
        Check.same("toTop(12, 0)", roof.toTop(12, 0), 25);
        Check.same("toTop(12, 1)", roof.toTop(12, 1), 162);
        Check.same("toTop(18, 0): not even", roof.toTop(18, 0), 15);
        Check.same("toTop(18, 1)", roof.toTop(18, 1), 97);
        roof.begin(400, 2);
        roof.set(0, 6);
        Check.same("toTop: more than 100 courses", roof.toTop(8, 0), 400);
        Check.same("toTop: their places", roof.toTop(9, 1), 1000);
        SlateRoof half = mixed();
        Check.same("toTop(12, 0): 31 of 4 each", half.toTop(12, 0), 8);
        Check.same("toTop(12, 1): from an odd one", half.toTop(12, 1), 44);
        Check.same("toTop(11, 1)", half.toTop(11, 1), 44);
        Check.same("toTop(10, 1): eleven, of which six are odd", half.toTop(10, 1), 61);
        Check.same("toTop(13, 0): too long", half.toTop(13, 0), SlateRoof.NONE);
        Check.same("toTop(13, 1): too long", half.toTop(13, 1), SlateRoof.NONE);
        SlateRoof done = Setup.smallDone();
        Check.same("toTop: at the top", done.toTop(24, 0) + done.toTop(8, 1), 0);
        SlateRoof low = Setup.small();
        low.course(10);
        low.set(0, 2);
        low.begin(20, 4);
        low.course(8);
        Check.same("toTop: gaps do not matter", low.toTop(8, 0), 6);
        SlateRoof lower = new SlateRoof();
        lower.begin(20, 4);
        Setup.buyWhole(lower, 22, 9);
        lower.set(0, 2);
        lower.course(22);
        lower.lay(4);
        lower.course(22);
        Check.same("toTop: at the top, but longer", lower.toTop(23, 0), SlateRoof.NONE);
        Check.same("toTop: at the top, as long", lower.toTop(22, 0), 0);
        Check.badArgument("toTop(7, 0)", roof, () -> roof.toTop(7, 0));
        Check.badArgument("toTop(25, 0)", roof, () -> roof.toTop(25, 0));
        Check.badArgument("toTop(8, -1)", roof, () -> roof.toTop(8, -1));
        Check.badArgument("toTop(8, 2)", roof, () -> roof.toTop(8, 2));
        Check.badArgument("toTop(24, 2) where 24 is too long", half, () -> half.toTop(24, 2));
    }

    private static void reach(String what, SlateRoof roof, int... due) {
        for (int number = 0; number < 4; number++) {
            Check.same("reach " + what + ", " + number, roof.reach(number), due[number]);
        }
    }

    private static void promise23Reach() {
        SlateRoof roof = new SlateRoof();
        reach("without slates", roof, 0, 0, 0, SlateRoof.NONE);
        roof.begin(40, 4);
        Setup.buyWhole(roof, 24, 8);
        Setup.buyWhole(roof, 20, 9);
        Setup.buyWhole(roof, 10, 13);
        Setup.buyWhole(roof, 8, 5);
        reach("24 once, 20 twice, 10 twice, 8 once", roof, 6, 34, 35 - 4 - 9 - 9 - 5, 8);
        roof.cover(true);
        roof.pass(0);
        reach("the cover does not matter", roof, 6, 34, 8, 8);
        roof.cover(false);
        Setup.buyWhole(roof, 12, 25);
        Check.same("reach: until the top", roof.reach(1), 42);
        Check.same("reach: courses until the top", roof.reach(0), 7);
        roof.course(10);
        reach("at most that below, places without a slate do not matter", roof, 3, 11, 60 - 5 - 4 - 5, 8);
        SlateRoof done = Setup.smallDone();
        Setup.buyWhole(done, 8, 20);
        reach("at the top", done, 0, 20, 20, SlateRoof.NONE);
        Check.badArgument("reach(-1)", roof, () -> roof.reach(-1));
        Check.badArgument("reach(4)", roof, () -> roof.reach(4));
    }

    private static void promise23Hundred() {
        SlateRoof roof = new SlateRoof();
        roof.begin(400, 2);
        roof.set(0, 6);
        Setup.buyWhole(roof, 8, 240);
        Setup.buyWhole(roof, 24, 60);
        reach("100 courses", roof, 100, 24 * 9 + 76, 300 - 250, 8);
        roof.course(9);
        Setup.buyWhole(roof, 8, 20);
        reach("with one that is there", roof, 100 - 1, 1 + 99, 320 - 248, 8);
    }

    private static void promise24DryDays() {
        SlateRoof roof = Setup.small();
        Check.same("dryDays: no slates", roof.dryDays(), SlateRoof.NONE);
        Setup.buyWhole(roof, 24, 9);
        Check.same("dryDays: one", roof.dryDays(), 1);
        Check.same("dryDays changes nothing", roof.count(2) + roof.count(7) + roof.count(18), 2);
        roof.set(1, 5);
        Check.same("dryDays: two", roof.dryDays(), 2);
        roof.set(2, 4);
        roof.pass(1);
        Check.same("dryDays: four damp ones, the last is dry", roof.dryDays(), 5);
        roof.cover(true);
        Check.same("dryDays: the cover does not matter", roof.dryDays(), 5);
        Check.same("dryDays: the cover stays", roof.count(10), 1);
        SlateRoof done = Setup.smallDone();
        Check.same("dryDays: done", done.dryDays(), 0);
        done.cover(true);
        Check.same("dryDays: done under the cover", done.dryDays(), 0);
        done.cover(false);
        done.pass(2);
        Check.same("dryDays: gaps", done.dryDays(), SlateRoof.NONE);
        Setup.buyWhole(done, 24, 2);
        Check.same("dryDays: mended", done.dryDays(), 1);
        done.set(1, 3);
        Check.same("dryDays: mended, then laid", done.dryDays(), 2);
        done.set(1, 2);
        Check.same("dryDays: no effort for mending", done.dryDays(), SlateRoof.NONE);
    }

    private static void promise24Limits() {
        SlateRoof roof = new SlateRoof();
        roof.begin(160, 2);
        roof.set(1, 1);
        Setup.buyWhole(roof, 8, 205);
        Check.same("dryDays: 80 courses of 200 slates", roof.dryDays(), 200);
        roof.pass(1);
        Check.same("dryDays: the second day is dry, so 201", roof.dryDays(), SlateRoof.NONE);
        roof.set(2, 1);
        roof.pass(1);
        Check.same("dryDays: the first day is dry, so 200", roof.dryDays(), 200);
        roof.pass(0);
        roof.begin(161, 2);
        Check.same("dryDays: 202 slates", roof.dryDays(), SlateRoof.NONE);
        roof.set(1, 2);
        Check.same("dryDays: 202 slates, two a day", roof.dryDays(), 101);
        for (int time = 0; time < 5; time++) {
            roof.cover(true);
            Setup.work(roof, time == 4 ? "r99r98" : "r99r99d2");
        }
        Check.same("dryDays: day 1000", roof.count(7), 1000);
        Check.same("dryDays: the limit of the days does not matter", roof.dryDays(), 101);
    }

    private static void promise25BestLength() {
        SlateRoof roof = new SlateRoof();
        Check.same("bestLength: new", roof.bestLength(), 8);
        roof.set(0, 6);
        Check.same("bestLength: lap 6, 162 places for 12 each", roof.bestLength(), 14);
        roof.course(13);
        Check.same("bestLength: at most 13", roof.bestLength(), 10);
        Check.same("bestLength: done", Setup.smallDone().bestLength(), SlateRoof.NONE);
        SlateRoof gaps = Setup.smallDone();
        gaps.pass(2);
        Check.same("bestLength: high enough with gaps", gaps.bestLength(), SlateRoof.NONE);
    }

    /** Of several lengths of the least price, the greatest one. */
    private static void promise25Ties() {
        int ties = 0;
        for (int width = 2; width <= 30; width++) {
            for (int height = 20; height <= 400; height += 7) {
                SlateRoof roof = new SlateRoof();
                roof.begin(height, width);
                roof.set(0, 2 + height % 5);
                int best = roof.bestLength();
                Check.same("bestLength " + height + ", " + width, best, cheapest(roof));
                for (int length = 8; length < best; length++) {
                    ties += priceTo(roof, length) == priceTo(roof, best) ? 1 : 0;
                }
            }
        }
        Check.same("bestLength: there were ties", ties > 0, true);
    }

    private static int priceTo(SlateRoof roof, int length) {
        return roof.toTop(length, 1) * roof.slates(length, 4);
    }

    private static int cheapest(SlateRoof roof) {
        int best = 8;
        for (int length = 9; length <= 24; length++) {
            best = priceTo(roof, length) <= priceTo(roof, best) ? length : best;
        }
        return best;
    }

    private static void promise26MeanPrice() {
        SlateRoof roof = new SlateRoof();
        Check.sameDouble("meanPrice: none", roof.meanPrice(), 0.0);
        Setup.buyWhole(roof, 12, 7);
        Setup.buyBroken(roof, 24, 1);
        Check.sameDouble("meanPrice: none on the roof", roof.meanPrice(), 0.0);
        roof.course(12);
        roof.lay(1);
        Check.sameDouble("meanPrice: 99 / 1", roof.meanPrice(), 99.0);
        roof.lay(1);
        Check.sameDouble("meanPrice: 99 / 2", roof.meanPrice(), 49.5);
        roof.lay(1);
        Check.sameDouble("meanPrice: 99 / 3", roof.meanPrice(), 33.0);
        roof.lay(3);
        Check.sameDouble("meanPrice: 99 / 6", roof.meanPrice(), 16.5);
        roof.begin(100, 6);
        Check.sameDouble("meanPrice: on an elder roof", roof.meanPrice(), 16.5);
        roof.course(12);
        roof.lay(1);
        Check.sameDouble("meanPrice: 99 / 7", roof.meanPrice(), 99.0 / 7.0);
        roof.pass(2);
        roof.pass(2);
        roof.pass(2);
        roof.pass(2);
        roof.pass(2);
        Check.sameDouble("meanPrice: fallen", roof.meanPrice(), 16.5);
    }

    private static long listed(SlateRoof roof, String buffer) {
        long hash = 2273;
        for (int what = 0; what <= 18; what++) {
            hash = 31 * hash + roof.count(what);
        }
        for (int setting = 0; setting < 3; setting++) {
            hash = 31 * hash + roof.setting(setting);
        }
        for (int length = 8; length <= 24; length++) {
            for (int what = 0; what < 4; what++) {
                hash = 31 * hash + roof.slates(length, what);
            }
            hash = 31 * (31 * hash + roof.toTop(length, 0)) + roof.toTop(length, 1);
        }
        for (int course = 0; course < roof.count(2); course++) {
            for (int what = 0; what <= 6; what++) {
                hash = 31 * hash + roof.courseOf(course, what);
            }
            for (int place = 0; place < roof.courseOf(course, 1); place++) {
                hash = 31 * hash + (roof.lies(course, place) ? 1 : 0);
            }
        }
        for (int what = 0; what < 4; what++) {
            hash = 31 * hash + roof.reach(what);
        }
        hash = 31 * (31 * hash + roof.dryDays()) + roof.bestLength();
        hash = 31 * hash + Double.doubleToLongBits(roof.meanPrice());
        hash = 31 * hash + buffer.length();
        for (char sign : buffer.toCharArray()) {
            hash = 31 * hash + sign;
        }
        return hash;
    }

    private static void promise27Digest() {
        SlateRoof roof = new SlateRoof();
        Check.same("digest: new", roof.digest(), listed(roof, ""));
        Setup.write(roof, "d2~!");
        Check.same("digest: a text", roof.digest(), listed(roof, "d2~!"));
        SlateRoof half = mixed();
        Check.same("digest: courses", half.digest(), listed(half, ""));
        SlateRoof done = Setup.smallDone();
        Check.same("digest: done", done.digest(), listed(done, ""));
        done.pass(2);
        done.begin(30, 3);
        Check.same("digest: elder roofs", done.digest(), listed(done, ""));
        SlateRoof dear = new SlateRoof();
        for (int time = 0; time < 20; time++) {
            dear.buy(24, 200, time);
        }
        Setup.buyWhole(dear, 20, 1);
        dear.course(20);
        dear.lay(1);
        Check.same("digest: the dearest slate", dear.digest(), listed(dear, ""));
        long before = dear.digest();
        Check.same("digest changes nothing", dear.digest(), before);
    }

    /** The bits of the mean price, for prices that are no short binary numbers. */
    private static void promise27Bits() {
        for (int time = 0; time < 60; time++) {
            SlateRoof roof = new SlateRoof();
            roof.begin(400, 30);
            Setup.buyWhole(roof, 8, 30);
            roof.course(8);
            roof.lay(1 + time % 19);
            roof.buy(8 + time % 17, 1 + time * 3, time);
            Check.same("digest: price " + time, roof.digest(), listed(roof, ""));
        }
    }

    public static void main(String[] args) {
        promise17CourseOf();
        promise18Lies();
        promise19Slates();
        promise20Count();
        promise21Setting();
        promise22ToTop();
        promise23Reach();
        promise23Hundred();
        promise24DryDays();
        promise24Limits();
        promise25BestLength();
        promise25Ties();
        promise26MeanPrice();
        promise27Digest();
        promise27Bits();
        Check.end("ViewTest");
    }
}
