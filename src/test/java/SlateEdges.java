/** The edges of promises 1 to 6: a new object, the roof and the slates. */
final class SlateEdges {
    private static final int LEAST = Integer.MIN_VALUE;
    private static final int MOST = Integer.MAX_VALUE;

    private SlateEdges() {
    }

    private static void newObject() {
        Edge.of("Promise 1", "Creates a roof without courses, without slates, the cover off, with an empty buffer.");
        int[] none = {2, 3, 4, 5, 6, 7, 9, 10, 11, 12, 13, 14, 15, 16, 17, 18};
        for (int what : none) {
            Edge.answers("count " + what, SlateRoof::new, r -> r.count(what), 0);
        }
        Edge.badIndex("no course", SlateRoof::new, r -> r.courseOf(0, 0));
        Edge.badIndex("no place", SlateRoof::new, r -> r.lies(0, 0) ? 1 : 0);
        Edge.badIndex("no place to mend", SlateRoof::new, r -> r.mend(0, 0));
        Edge.badState("no course to lay in", () -> bought(24, 9), r -> r.lay(1));
        Edge.badState("no broken slate", SlateRoof::new, r -> r.recut(24, 8, 1));
        Edge.answers("no heap", SlateRoof::new, r -> r.clearHeap(25), 0);
        Edge.answers("the cover is off", SlateRoof::new, r -> r.cover(true), 0);
        Edge.answers("an empty buffer", SlateRoof::new, SlateRoof::clearBuffer, 0);
        Edge.badArgument("no row of days", SlateRoof::new, SlateRoof::work);
        SlateRoof one = new SlateRoof();
        SlateRoof other = new SlateRoof();
        long before = other.digest();
        one.buy(8, 9, 1);
        one.course(8);
        one.append('d');
        Edge.same("another object stays as it is", other.digest(), before);
    }

    private static SlateRoof bought(int length, int many) {
        SlateRoof roof = new SlateRoof();
        Setup.buyWhole(roof, length, many);
        return roof;
    }

    private static void begin() {
        Edge.of("Promise 2", "Begins a new roof: its courses are gone (their slates are counted as left on elder");
        SlateRoof roof = Roofs.withDamp(Roofs.busy(), 3);
        roof.cover(true);
        roof.begin(400, 30);
        int[] due = {400, 30, 0, 0, 0, 0, 0, 4, 20, 3, 1, 23, 8, 5, 0, 0, 10, 489, 6};
        for (int what = 0; what < due.length; what++) {
            Edge.same("count " + what, roof.count(what), due[what]);
        }
        Edge.same("the drying stays", roof.setting(2), 3);
        Edge.same("the buffer stays", roof.clearBuffer(), 2);
        Edge.badIndex("the courses are gone", () -> begun(Roofs.busy()), r -> r.courseOf(0, 0));
        Edge.after("a new course is empty", () -> begun(Roofs.busy()), r -> r.course(24), r -> r.courseOf(0, 2), 0);
        Edge.answers("no slates, so none are left", () -> begun(new SlateRoof()), r -> r.count(16), 0);
        Edge.answers("those of two elder roofs", () -> begun(withThree(begun(Roofs.busy()))), r -> r.count(16), 13);
        Edge.answers("counted once", () -> begun(begun(Roofs.busy())), r -> r.count(16), 10);
        Edge.of("Promise 2", "Undoable.");
        Edge.undoable("begin", Roofs::busy, r -> r.begin(20, 2));

        Edge.of("Promise 2", "- `height`: 20 to 400");
        int[] heights = {20, 21, 399, 400};
        for (int height : heights) {
            Edge.after("height " + height, Roofs::busy, r -> r.begin(height, 6), r -> r.count(0), height);
        }
        Edge.of("Promise 2", "- `width`: 2 to 30");
        int[] widths = {2, 3, 29, 30};
        for (int width : widths) {
            Edge.after("width " + width, Roofs::busy, r -> r.begin(100, width), r -> r.count(1), width);
        }
        Edge.of("Promise 2", "Returns how many slates lay on the roof.");
        Edge.answers("no course", SlateRoof::new, r -> r.begin(20, 2), 0);
        Edge.answers("a course without slates", () -> withCourse(new SlateRoof()), r -> r.begin(20, 2), 0);
        Edge.answers("10 of 13 places", Roofs::busy, r -> r.begin(20, 2), 10);
        Edge.answers("100 courses", () -> Roofs.tower(100), r -> r.begin(20, 2), 250);
        Edge.answers("the greatest width", () -> Roofs.wide(3), r -> r.begin(20, 2), 91);
        Edge.of("Promise 2", "Throws `IllegalArgumentException` if an argument is out of range");
        int[][] outside = {{19, 6}, {401, 6}, {100, 1}, {100, 31}, {19, 31}, {0, 0}, {-20, -2}, {LEAST, 6}, {MOST, 6},
            {100, LEAST}, {100, MOST}};
        for (int[] size : outside) {
            Edge.badArgument(size[0] + ", " + size[1], Roofs::busy, r -> r.begin(size[0], size[1]));
        }
    }

    private static SlateRoof begun(SlateRoof roof) {
        roof.begin(100, 6);
        return roof;
    }

    private static SlateRoof withCourse(SlateRoof roof) {
        roof.course(20);
        return roof;
    }

    private static SlateRoof withThree(SlateRoof roof) {
        roof.course(20);
        roof.lay(3);
        return roof;
    }

    private static void set() {
        Edge.of("Promise 3", "Changes a setting.");
        SlateRoof roof = new SlateRoof();
        roof.set(1, 7);
        Edge.same("this one", roof.setting(1), 7);
        Edge.same("no other: 0", roof.setting(0), 4);
        Edge.same("no other: 2", roof.setting(2), 2);
        Edge.of("Promise 3", "Undoable.");
        for (int setting = 0; setting <= 2; setting++) {
            int which = setting;
            Edge.undoable("set " + which, Roofs::busy, r -> r.set(which, 5));
        }
        Edge.of("Promise 3", "- `setting`: 0 to 2");
        Edge.after("0", SlateRoof::new, r -> r.set(0, 3), r -> r.setting(0), 3);
        Edge.after("2", SlateRoof::new, r -> r.set(2, 3), r -> r.setting(2), 3);
        Edge.of("Promise 3", "- `value`: the new value");
        int[][] inside = {{0, 2}, {0, 6}, {1, 1}, {1, 60}, {2, 1}, {2, 5}};
        for (int[] one : inside) {
            SlateRoof other = Roofs.busy();
            other.set(one[0], one[1]);
            Edge.same("setting " + one[0], other.setting(one[0]), one[1]);
        }
        Edge.of("Promise 3", "Returns the previous value.");
        SlateRoof twice = new SlateRoof();
        Edge.same("at first", twice.set(0, 6), 4);
        Edge.same("then", twice.set(0, 6), 6);
        Edge.same("the same again", twice.set(0, 2), 6);
        Edge.of("Promise 3", "Throws `IndexOutOfBoundsException` if there is no such setting");
        int[] none = {-1, 3, LEAST, MOST};
        for (int setting : none) {
            Edge.badIndex("setting " + setting, Roofs::busy, r -> r.set(setting, 3));
        }
        Edge.of("Promise 3", "Throws `IllegalArgumentException` if value is out of range");
        int[][] outside = {{0, 1}, {0, 7}, {1, 0}, {1, 61}, {2, 0}, {2, 6}, {0, LEAST}, {1, MOST}, {2, -1}};
        for (int[] one : outside) {
            Edge.badArgument(one[0] + ", " + one[1], Roofs::busy, r -> r.set(one[0], one[1]));
        }
    }

    private static void buy() {
        Edge.of("Promise 4", "Buys slates.");
        SlateRoof roof = Roofs.busy();
        Setup.buyWhole(roof, 20, 2);
        Edge.same("more in stock", roof.slates(20, 0), 5);
        Edge.same("more bought", roof.slates(20, 3), 11);
        Edge.same("no more broken", roof.slates(20, 1), 1);
        Edge.of("Promise 4", "Undoable.");
        Edge.undoable("buy", Roofs::busy, r -> r.buy(24, 200, 3));
        Edge.of("Promise 4", "- `length`: 8 to 24");
        Edge.after("8", SlateRoof::new, r -> r.buy(8, 5, 1), r -> r.slates(8, 3), 5);
        Edge.after("24", SlateRoof::new, r -> r.buy(24, 5, 1), r -> r.slates(24, 3), 5);
        Edge.of("Promise 4", "- `many`: 1 to 200");
        Edge.after("1", SlateRoof::new, r -> r.buy(8, 1, 1), r -> r.count(11), 1);
        Edge.after("200", SlateRoof::new, r -> r.buy(8, 200, 1), r -> r.count(11), 200);
        Edge.of("Promise 4", "- `seed`: any int");
        int[] seeds = {0, 1, -1, LEAST, MOST};
        for (int seed : seeds) {
            SlateRoof any = new SlateRoof();
            int broken = any.buy(8, 200, seed);
            Edge.same("the seed " + seed, any.slates(8, 0) + broken, 200);
        }
        Edge.of("Promise 4", "Returns how many of them are broken.");
        for (int broken = 0; broken <= 4; broken++) {
            int due = broken;
            Edge.answers(due + " of 4", Roofs::busy, r -> r.buy(8, 4, Setup.seedFor(4, due)), due);
        }
        Edge.of("Promise 4", "Throws `IllegalArgumentException` if length or many is out of range");
        int[][] outside = {{7, 5}, {25, 5}, {LEAST, 5}, {MOST, 5}, {8, 0}, {8, 201}, {24, -1}, {24, LEAST}, {24, MOST}};
        for (int[] one : outside) {
            Edge.badArgument(one[0] + ", " + one[1], Roofs::busy, r -> r.buy(one[0], one[1], 1));
        }
    }

    private static void buyTooMany() {
        Edge.of("Promise 4", "Throws `IllegalStateException` if more than 5000 slates would have been bought in all");
        int[][] moreAndMany = {{0, 200}, {199, 1}, {100, 100}};
        for (int[] one : moreAndMany) {
            SlateRoof roof = Roofs.bought(one[0]);
            roof.buy(24, one[1], 1);
            Edge.same(one[1] + " to 5000", roof.count(11), 5000);
            Edge.badState(one[1] + " to 5001", () -> Roofs.bought(one[0] + 1), r -> r.buy(24, one[1], 1));
        }
        Edge.badState("200 above 5000", () -> Roofs.bought(200), r -> r.buy(24, 200, 1));
        Edge.badState("cleared ones count", () -> cleared(Roofs.bought(200)), r -> r.buy(24, 1, 1));
        SlateRoof undone = Roofs.bought(200);
        undone.undo();
        undone.buy(24, 200, 1);
        Edge.same("undone ones do not", undone.count(11), 5000);
    }

    private static SlateRoof cleared(SlateRoof roof) {
        roof.clearHeap(25);
        return roof;
    }

    /** So many broken ones of 24; those that were more are cut to 8. */
    private static SlateRoof heapOf(int many) {
        SlateRoof roof = new SlateRoof();
        for (int seed = 0; seed < 25 && roof.slates(24, 1) < many; seed++) {
            roof.buy(24, 200, seed);
        }
        if (roof.slates(24, 1) > many) {
            roof.recut(24, 8, roof.slates(24, 1) - many);
        }
        return roof;
    }

    private static void recut() {
        Edge.of("Promise 5", "Cuts broken slates.");
        SlateRoof roof = Roofs.busy();
        roof.recut(24, 20, 2);
        Edge.same("more in stock", roof.slates(20, 0), 5);
        Edge.same("fewer broken", roof.slates(24, 1), 0);
        Edge.same("cut so far", roof.count(14), 2);
        Edge.same("bought stays", roof.slates(24, 3) * 100 + roof.slates(20, 3), 209);
        Edge.of("Promise 5", "Undoable.");
        Edge.undoable("recut", Roofs::busy, r -> r.recut(24, 20, 1));
        Edge.of("Promise 5", "- `length`: the length that they had, 8 to 24");
        Edge.answers("24", Roofs::busy, r -> r.recut(24, 8, 2), 0);
        Edge.answers("16", Roofs::busy, r -> r.recut(16, 8, 2), 0);
        Edge.of("Promise 5", "- `to`: the length that they get, 8 to 20");
        Edge.after("8", Roofs::busy, r -> r.recut(24, 8, 1), r -> r.slates(8, 0), 1);
        Edge.after("20", Roofs::busy, r -> r.recut(24, 20, 1), r -> r.slates(20, 0), 4);
        Edge.of("Promise 5", "- `many`: 1 to 200");
        Edge.answers("1 of 200", () -> heapOf(200), r -> r.recut(24, 20, 1), 199);
        Edge.answers("200 of 200", () -> heapOf(200), r -> r.recut(24, 20, 200), 0);
        Edge.after("200 in stock", () -> heapOf(200), r -> r.recut(24, 20, 200), r -> r.slates(20, 0), 200);
        Edge.of("Promise 5", "Returns how many broken ones of this length are left.");
        Edge.answers("one of two", Roofs::busy, r -> r.recut(24, 20, 1), 1);
        Edge.answers("none of two", Roofs::busy, r -> r.recut(24, 20, 2), 0);
        Edge.of("Promise 5", "Throws `IllegalArgumentException` if an argument is out of range, or to is greater than");
        int[][] outside = {{7, 8, 1}, {25, 8, 1}, {24, 7, 1}, {24, 21, 1}, {24, 8, 0}, {24, 8, 201}, {23, 20, 1},
            {12, 9, 1}, {11, 8, 1}, {8, 8, 1}, {16, 13, 1}, {24, 24, 1}, {25, 21, 1}, {LEAST, 8, 1}, {MOST, 8, 1},
            {24, LEAST, 1}, {24, MOST, 1}, {24, 8, LEAST}, {24, 8, MOST}, {24, 8, -1}};
        for (int[] one : outside) {
            Edge.badArgument(one[0] + ", " + one[1] + ", " + one[2], Roofs::busy, r -> r.recut(one[0], one[1], one[2]));
        }
        Edge.badArgument("201 where there are as many", () -> heapOf(201), r -> r.recut(24, 8, 201));
        Edge.answers("as little as 4 less", Roofs::busy, r -> r.recut(16, 12, 1), 1);
        Edge.of("Promise 5", "Throws `IllegalStateException` if there are not so many broken ones of this length");
        Edge.badState("3 of 2", Roofs::busy, r -> r.recut(24, 20, 3));
        Edge.badState("200 of 199", () -> heapOf(199), r -> r.recut(24, 20, 200));
        Edge.badState("none of 23", Roofs::busy, r -> r.recut(23, 8, 1));
        Edge.badState("one of 12", Roofs::busy, r -> r.recut(12, 8, 1));
        Edge.badState("slates in stock do not count", () -> Roofs.pair(9, 9), r -> r.recut(20, 8, 2));
    }

    /** One broken slate of each length from 8 to 24. */
    private static SlateRoof oneOfEach() {
        SlateRoof roof = new SlateRoof();
        for (int length = 8; length <= 24; length++) {
            Setup.buyBroken(roof, length, 1);
        }
        return roof;
    }

    private static void clearHeap() {
        Edge.of("Promise 6", "Throws all broken slates away that had less than a length.");
        for (int length = 8; length <= 25; length++) {
            SlateRoof roof = oneOfEach();
            roof.clearHeap(length);
            for (int other = 8; other <= 24; other++) {
                Edge.same(length + ": those of " + other, roof.slates(other, 1), other < length ? 0 : 1);
            }
            Edge.same(length + ": thrown away so far", roof.count(15), length - 8);
        }
        Edge.after("the stock stays", Roofs::busy, r -> r.clearHeap(25), r -> r.count(12), 8);
        Edge.after("what was bought stays", Roofs::busy, r -> r.clearHeap(25), r -> r.count(11), 23);
        Edge.of("Promise 6", "Undoable.");
        Edge.undoable("clearHeap", Roofs::busy, r -> r.clearHeap(21));
        Edge.of("Promise 6", "- `length`: 8 to 25");
        Edge.answers("8", SlateEdges::oneOfEach, r -> r.clearHeap(8), 0);
        Edge.answers("25", SlateEdges::oneOfEach, r -> r.clearHeap(25), 17);
        Edge.of("Promise 6", "Returns how many.");
        Edge.answers("none", SlateRoof::new, r -> r.clearHeap(25), 0);
        Edge.answers("below 9", SlateEdges::oneOfEach, r -> r.clearHeap(9), 1);
        Edge.answers("below 24", SlateEdges::oneOfEach, r -> r.clearHeap(24), 16);
        Edge.answers("a second time", () -> cleared(oneOfEach()), r -> r.clearHeap(25), 0);
        Edge.answers("200 of one length", () -> heapOf(200), r -> r.clearHeap(25), 200);
        Edge.of("Promise 6", "Throws `IllegalArgumentException` if length is out of range");
        int[] outside = {7, 26, 0, -8, LEAST, MOST};
        for (int length : outside) {
            Edge.badArgument("length " + length, Roofs::busy, r -> r.clearHeap(length));
        }
    }

    static void all() {
        newObject();
        begin();
        set();
        buy();
        buyTooMany();
        recut();
        clearHeap();
    }
}
