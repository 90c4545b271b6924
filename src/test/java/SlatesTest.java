/** Promises 1 to 6: a new object, the roof and the slates. */
public final class SlatesTest {
    private static void promise1NewObject() {
        SlateRoof roof = new SlateRoof();
        int[] counts = {100, 6, 0, 0, 0, 0, 0, 0, 20, 0, 0, 0, 0, 0, 0, 0, 0, 0, 0};
        for (int what = 0; what < counts.length; what++) {
            Check.same("new: count " + what, roof.count(what), counts[what]);
        }
        for (int length = 8; length <= 24; length++) {
            for (int what = 0; what < 4; what++) {
                Check.same("new: slates " + length + ", " + what, roof.slates(length, what), 0);
            }
        }
        Check.same("new: lap", roof.setting(0), 4);
        Check.same("new: pace", roof.setting(1), 20);
        Check.same("new: drying", roof.setting(2), 2);
        Check.same("new: first error", roof.firstError(), 0);
        Check.same("new: buffer", roof.clearBuffer(), 0);
        Check.badState("new: undo", roof, roof::undo);
        SlateRoof other = new SlateRoof();
        other.buy(8, 9, 1);
        other.append('d');
        Check.same("new: two objects share nothing", roof.count(11) + roof.clearBuffer(), 0);
    }

    private static void promise2Begin() {
        SlateRoof roof = Setup.smallDone();
        roof.set(0, 6);
        roof.cover(true);
        roof.pass(1);
        Setup.buyWhole(roof, 10, 3);
        Check.same("begin returns the slates that lay", roof.begin(21, 30), 9);
        Check.same("begin: height", roof.count(0), 21);
        Check.same("begin: width", roof.count(1), 30);
        Check.same("begin: courses", roof.count(2), 0);
        Check.same("begin: on the roof", roof.count(4), 0);
        Check.same("begin: day stays", roof.count(7), 1);
        Check.same("begin: cover stays", roof.count(10), 1);
        Check.same("begin: stock stays", roof.count(12), 3);
        Check.same("begin: lap stays", roof.setting(0), 6);
        Check.same("begin: elder roofs", roof.count(16), 9);
        Check.same("begin: nothing lies", roof.begin(20, 2), 0);
        Check.same("begin: elder roofs stay", roof.count(16), 9);
        Check.same("begin: undo", roof.undo(), 6 - 1);
        Check.same("begin: undo, width", roof.count(1), 30);
        roof.undo();
        Check.same("begin: undo, courses", roof.count(2), 2);
        Check.same("begin: undo, elder roofs", roof.count(16), 0);
        Check.same("begin: undo, place", roof.lies(1, 4), true);
        Check.same("begin: greatest", roof.begin(400, 30), 9);
        Check.badArgument("begin(19, 6)", roof, () -> roof.begin(19, 6));
        Check.badArgument("begin(401, 6)", roof, () -> roof.begin(401, 6));
        Check.badArgument("begin(100, 1)", roof, () -> roof.begin(100, 1));
        Check.badArgument("begin(100, 31)", roof, () -> roof.begin(100, 31));
        Check.badArgument("begin(least)", roof, () -> roof.begin(Integer.MIN_VALUE, Integer.MAX_VALUE));
    }

    private static void promise2EldersAddUp() {
        SlateRoof roof = Setup.smallDone();
        roof.begin(20, 2);
        Setup.buyWhole(roof, 8, 2);
        roof.course(8);
        roof.lay(2);
        Check.same("elders: second roof", roof.begin(20, 2), 2);
        Check.same("elders: in all", roof.count(16), 11);
        Check.same("elders: effort stays", roof.count(8), 9);
        roof.course(24);
        Check.same("elders: a new course is empty", roof.count(5), 2);
        Check.same("elders: no slate lies", roof.lies(0, 0), false);
    }

    private static void promise3Set() {
        SlateRoof roof = new SlateRoof();
        int[] least = {2, 1, 1};
        int[] most = {6, 60, 5};
        int[] first = {4, 20, 2};
        for (int setting = 0; setting < 3; setting++) {
            int which = setting;
            int low = least[setting];
            int high = most[setting];
            Check.same("set: previous of " + which, roof.set(which, low), first[which]);
            Check.same("set: previous again of " + which, roof.set(which, high), low);
            Check.same("set: now " + which, roof.setting(which), high);
            Check.badArgument("set below " + which, roof, () -> roof.set(which, low - 1));
            Check.badArgument("set above " + which, roof, () -> roof.set(which, high + 1));
            roof.undo();
            Check.same("set: undo " + which, roof.setting(which), low);
        }
        Check.badIndex("set(-1, 3)", roof, () -> roof.set(-1, 3));
        Check.badIndex("set(3, 3)", roof, () -> roof.set(3, 3));
        Check.badIndex("set(3, 1000): index first", roof, () -> roof.set(3, 1000));
    }

    private static void promise3EffortAndGauge() {
        SlateRoof roof = Setup.smallDone();
        roof.set(1, 60);
        Check.same("set: the effort that is left stays", roof.count(8), 11);
        roof.pass(0);
        Check.same("set: the pace from the next day on", roof.count(8), 60);
        Check.same("set: done with lap 4", roof.count(6), 1);
        roof.set(0, 5);
        Check.same("set: gauge with lap 5", roof.courseOf(0, 3), 9);
        Check.same("set: top with lap 5", roof.count(3), 18);
        Check.same("set: not done with lap 5", roof.count(6), 0);
    }

    private static void promise4Buy() {
        SlateRoof roof = new SlateRoof();
        Check.same("buy(20, 12, 7)", roof.buy(20, 12, 7), 1);
        Check.same("buy(16, 20, 99)", roof.buy(16, 20, 99), 4);
        Check.same("buy(12, 30, -5)", roof.buy(12, 30, -5), 1);
        Check.same("buy(24, 3, 1)", roof.buy(24, 3, 1), 0);
        Check.same("buy: stock of 16", roof.slates(16, 0), 16);
        Check.same("buy: heap of 16", roof.slates(16, 1), 4);
        Check.same("buy: bought of 16", roof.slates(16, 3), 20);
        Check.same("buy: in all", roof.count(11), 65);
        Check.same("buy: stock in all", roof.count(12), 59);
        Check.same("buy: heap in all", roof.count(13), 6);
        Check.same("buy: cost, each rounded down", roof.count(17), 12 * 25 + 20 * 16 + 30 * 9 + 3 * 36);
        roof.buy(9, 2, 1);
        Check.same("buy: 81 / 16 is 5 for each", roof.count(17), 12 * 25 + 20 * 16 + 30 * 9 + 3 * 36 + 10);
        roof.undo();
        Check.same("buy: undo", roof.slates(9, 3) + roof.count(11), 65);
        roof.buy(8, 1, Integer.MIN_VALUE);
        roof.buy(24, 200, Integer.MAX_VALUE);
        Check.badArgument("buy(7, 1, 1)", roof, () -> roof.buy(7, 1, 1));
        Check.badArgument("buy(25, 1, 1)", roof, () -> roof.buy(25, 1, 1));
        Check.badArgument("buy(8, 0, 1)", roof, () -> roof.buy(8, 0, 1));
        Check.badArgument("buy(8, 201, 1)", roof, () -> roof.buy(8, 201, 1));
    }

    private static void promise4Limit() {
        SlateRoof roof = new SlateRoof();
        for (int time = 0; time < 24; time++) {
            roof.buy(24, 200, time);
        }
        roof.clearHeap(25);
        roof.buy(10, 199, 5);
        Check.badState("buy: 5001", roof, () -> roof.buy(10, 2, 5));
        Check.badArgument("buy: length first", roof, () -> roof.buy(7, 200, 5));
        roof.buy(10, 1, 5);
        Check.same("buy: 5000", roof.count(11), 5000);
        Check.badState("buy: 5001 at once", roof, () -> roof.buy(10, 1, 5));
        Check.same("buy: cost of most", roof.count(17), 4800 * 36 + 200 * 6);
    }

    private static void promise5Recut() {
        SlateRoof roof = new SlateRoof();
        Setup.buyBroken(roof, 24, 3);
        Setup.buyBroken(roof, 12, 2);
        Check.same("recut: left", roof.recut(24, 20, 2), 1);
        Check.same("recut: stock", roof.slates(20, 0), 2);
        Check.same("recut: heap", roof.slates(24, 1), 1);
        Check.same("recut: bought stays", roof.slates(24, 3), 3);
        Check.same("recut: bought of the new length", roof.slates(20, 3), 0);
        Check.same("recut: cut", roof.count(14), 2);
        Check.badState("recut: too many", roof, () -> roof.recut(24, 20, 2));
        Check.same("recut: shortest", roof.recut(12, 8, 2), 0);
        Check.same("recut: cut in all", roof.count(14), 4);
        roof.undo();
        Check.same("recut: undo", roof.slates(12, 1), 2);
        Check.same("recut: undo, cut", roof.count(14), 2);
        Check.badArgument("recut(12, 9, 1): 3 less", roof, () -> roof.recut(12, 9, 1));
        Check.badArgument("recut(12, 7, 1)", roof, () -> roof.recut(12, 7, 1));
        Check.badArgument("recut(24, 21, 1)", roof, () -> roof.recut(24, 21, 1));
        Check.badArgument("recut(25, 20, 1)", roof, () -> roof.recut(25, 20, 1));
        Check.badArgument("recut(7, 8, 1)", roof, () -> roof.recut(7, 8, 1));
        Check.badArgument("recut(11, 8, 1)", roof, () -> roof.recut(11, 8, 1));
        Check.badArgument("recut(24, 8, 0)", roof, () -> roof.recut(24, 8, 0));
        Check.badArgument("recut(24, 8, 201)", roof, () -> roof.recut(24, 8, 201));
        Check.badArgument("recut of least", roof, () -> roof.recut(Integer.MIN_VALUE, 8, 1));
        Check.badState("recut(24, 8, 200)", roof, () -> roof.recut(24, 8, 200));
    }

    private static void promise6ClearHeap() {
        SlateRoof roof = new SlateRoof();
        Setup.buyBroken(roof, 8, 1);
        Setup.buyBroken(roof, 16, 2);
        Setup.buyBroken(roof, 24, 3);
        Setup.buyWhole(roof, 10, 4);
        Check.same("clearHeap(8)", roof.clearHeap(8), 0);
        Check.same("clearHeap(16)", roof.clearHeap(16), 1);
        Check.same("clearHeap: those of 16 stay", roof.slates(16, 1), 2);
        Check.same("clearHeap(17)", roof.clearHeap(17), 2);
        Check.same("clearHeap(24)", roof.clearHeap(24), 0);
        Check.same("clearHeap(25)", roof.clearHeap(25), 3);
        Check.same("clearHeap: thrown away", roof.count(15), 6);
        Check.same("clearHeap: heap", roof.count(13), 0);
        Check.same("clearHeap: stock stays", roof.count(12), 4);
        Check.same("clearHeap: bought stays", roof.count(11), 10);
        roof.undo();
        Check.same("clearHeap: undo", roof.slates(24, 1), 3);
        Check.same("clearHeap: undo, thrown away", roof.count(15), 3);
        Check.badArgument("clearHeap(7)", roof, () -> roof.clearHeap(7));
        Check.badArgument("clearHeap(26)", roof, () -> roof.clearHeap(26));
        Check.badArgument("clearHeap(greatest)", roof, () -> roof.clearHeap(Integer.MAX_VALUE));
    }

    public static void main(String[] args) {
        promise1NewObject();
        promise2Begin();
        promise2EldersAddUp();
        promise3Set();
        promise3EffortAndGauge();
        promise4Buy();
        promise4Limit();
        promise5Recut();
        promise6ClearHeap();
        Check.end("SlatesTest");
    }
}
