/** Promises 7 to 11: courses, laying, mending, the cover and the days. */
public final class WorkTest {
    private static void promise7Course() {
        SlateRoof roof = Setup.small();
        Check.same("course: first", roof.course(20), 0);
        Check.same("course: length", roof.courseOf(0, 0), 20);
        Check.same("course: no effort", roof.count(8), 20);
        Check.badState("course: places are free", roof, () -> roof.course(20));
        Setup.buyWhole(roof, 20, 4);
        roof.lay(3);
        Check.badState("course: a place is free", roof, () -> roof.course(20));
        roof.lay(1);
        Check.badState("course: longer than below", roof, () -> roof.course(21));
        Check.same("course: as long as below", roof.course(20), 1);
        Check.same("course: odd ones have 1 more", roof.courseOf(1, 1), 5);
        roof.undo();
        Check.same("course: undo", roof.count(2), 1);
        Check.same("course: shorter", roof.course(8), 1);
        Check.badArgument("course(7)", roof, () -> roof.course(7));
        Check.badArgument("course(25)", roof, () -> roof.course(25));
    }

    private static void promise7Limits() {
        SlateRoof done = Setup.smallDone();
        Check.badState("course: high enough", done, () -> done.course(8));
        done.set(0, 5);
        Check.same("course: the lap has made it lower", done.course(8), 2);

        SlateRoof roof = new SlateRoof();
        roof.cover(true);
        Check.badState("course: under the cover", roof, () -> roof.course(8));
        Check.badArgument("course: length first", roof, () -> roof.course(7));
        roof.cover(false);
        roof.pass(1);
        Check.badState("course: damp", roof, () -> roof.course(8));
        roof.pass(0);
        Check.badState("course: still damp", roof, () -> roof.course(8));
        roof.pass(0);
        Check.same("course: dry again", roof.course(24), 0);
    }

    /** 100 courses of gauge 1 on a width of 2, all laid, 150 below the height. */
    private static SlateRoof hundredCourses() {
        SlateRoof roof = new SlateRoof();
        roof.begin(250, 2);
        roof.set(0, 6);
        roof.set(1, 60);
        Setup.buyWhole(roof, 8, 260);
        Check.same("100 courses: laid", Setup.work(roof, "d5"), 250);
        return roof;
    }

    private static void promise7Hundred() {
        SlateRoof roof = hundredCourses();
        Check.same("100 courses", roof.count(2), 100);
        Check.same("100 courses: top", roof.count(3), 100);
        Check.badState("course: 101", roof, () -> roof.course(8));
        Check.same("100 courses: texts go no further", Setup.work(roof, "d9"), 0);
        Check.same("100 courses: reach", roof.reach(0), 0);
        Check.same("100 courses: dry days", roof.dryDays(), SlateRoof.NONE);
        Check.same("100 courses: to the top", roof.toTop(8, 0), 150);
    }

    private static void promise8Lay() {
        SlateRoof roof = Setup.small();
        Check.badState("lay: no course", roof, () -> roof.lay(1));
        Setup.buyWhole(roof, 24, 3);
        roof.course(24);
        Check.same("lay: two", roof.lay(2), 2);
        Check.same("lay: at the first places", roof.lies(0, 1), true);
        Check.same("lay: not at the third", roof.lies(0, 2), false);
        Check.same("lay: effort", roof.count(8), 18);
        Check.same("lay: stock", roof.slates(24, 0), 1);
        Check.badState("lay: not so many in stock", roof, () -> roof.lay(2));
        Check.same("lay: one more", roof.lay(1), 3);
        Setup.buyWhole(roof, 24, 9);
        Check.badState("lay: not so many places", roof, () -> roof.lay(2));
        Check.same("lay: the last place", roof.lay(1), 4);
        Check.badState("lay: no place", roof, () -> roof.lay(1));
        roof.undo();
        Check.same("lay: undo, place", roof.lies(0, 3), false);
        Check.same("lay: undo, effort", roof.count(8), 17);
        Check.same("lay: undo, stock", roof.slates(24, 0), 9);
        Check.badArgument("lay(0)", roof, () -> roof.lay(0));
        Check.badArgument("lay(61)", roof, () -> roof.lay(61));
        Check.badState("lay(60)", roof, () -> roof.lay(60));
        roof.cover(true);
        Check.badState("lay: under the cover", roof, () -> roof.lay(1));
        roof.cover(false);
        roof.pass(1);
        Check.badState("lay: damp", roof, () -> roof.lay(1));
    }

    private static void promise8Effort() {
        SlateRoof roof = new SlateRoof();
        roof.begin(100, 30);
        Setup.buyWhole(roof, 12, 61);
        roof.course(12);
        Check.badState("lay: not so much effort", roof, () -> roof.lay(21));
        Check.same("lay: all effort", roof.lay(20), 20);
        Check.badState("lay: no effort", roof, () -> roof.lay(1));
        roof.pass(0);
        Check.same("lay: next day", roof.lay(10), 30);
        roof.course(12);
        roof.set(1, 60);
        roof.pass(0);
        Check.same("lay: 31 places", roof.lay(31), 31);
        Check.same("lay: the place 30", roof.lies(1, 30), true);
        Check.same("lay: no free place", roof.courseOf(1, 5), SlateRoof.NONE);
    }

    private static void promise8FillsGaps() {
        SlateRoof roof = Setup.smallDone();
        Setup.buyWhole(roof, 24, 2);
        roof.begin(100, 6);
        roof.course(24);
        Setup.buyWhole(roof, 24, 6);
        roof.lay(6);
        Check.same("lay: fallen from 1", roof.pass(2), 1);
        roof.pass(0);
        roof.pass(0);
        Check.same("lay: into the gap", roof.lay(1), 6);
        Check.same("lay: the gap is gone", roof.lies(0, 1), true);
    }

    private static void promise9Mend() {
        SlateRoof roof = Setup.smallDone();
        Check.badState("mend: a slate lies there", roof, () -> roof.mend(0, 3));
        Check.same("mend: fallen", roof.pass(2), 2);
        Check.same("mend: fallen from the last", roof.lies(1, 1), false);
        Check.same("mend: fallen from below", roof.lies(0, 3), false);
        Check.badState("mend: nothing in stock", roof, () -> roof.mend(0, 3));
        Setup.buyWhole(roof, 24, 3);
        Check.same("mend: below", roof.mend(0, 3), 17);
        Check.same("mend: lies again", roof.lies(0, 3), true);
        Check.same("mend: the last course, too", roof.mend(1, 1), 14);
        Check.same("mend: stock", roof.slates(24, 0), 1);
        Check.same("mend: done again", roof.count(6), 1);
        roof.undo();
        Check.same("mend: undo", roof.lies(1, 1), false);
        Check.same("mend: undo, effort", roof.count(8), 17);
        roof.cover(true);
        Check.badState("mend: under the cover", roof, () -> roof.mend(1, 1));
        roof.cover(false);
        roof.pass(1);
        Check.badState("mend: damp", roof, () -> roof.mend(1, 1));
        Check.badIndex("mend(2, 0)", roof, () -> roof.mend(2, 0));
        Check.badIndex("mend(-1, 0)", roof, () -> roof.mend(-1, 0));
        Check.badIndex("mend(0, 4)", roof, () -> roof.mend(0, 4));
        Check.badIndex("mend(1, 5)", roof, () -> roof.mend(1, 5));
        Check.badIndex("mend(1, -1)", roof, () -> roof.mend(1, -1));
        Check.badIndex("mend(greatest)", roof, () -> roof.mend(Integer.MAX_VALUE, Integer.MIN_VALUE));
        Check.badState("mend(1, 4): a place, but damp", roof, () -> roof.mend(1, 4));
    }

    private static void promise9Effort() {
        SlateRoof roof = Setup.smallDone();
        roof.set(1, 5);
        roof.pass(2);
        Setup.buyWhole(roof, 24, 3);
        Check.same("mend: effort 5", roof.mend(0, 3), 2);
        Check.badState("mend: effort 2", roof, () -> roof.mend(1, 1));
        Check.same("mend: laying is cheaper", roof.lay(1), 5);
        roof.set(1, 3);
        roof.pass(2);
        Check.same("mend: effort 3", roof.mend(1, 2), 0);
    }

    private static void promise9OtherLength() {
        SlateRoof roof = new SlateRoof();
        Setup.buyWhole(roof, 20, 6);
        Setup.buyWhole(roof, 16, 7);
        roof.course(20);
        roof.lay(6);
        roof.course(16);
        roof.lay(7);
        roof.pass(2);
        roof.pass(0);
        roof.pass(0);
        Setup.buyWhole(roof, 16, 1);
        Check.badState("mend: another length", roof, () -> roof.mend(0, 3));
        Check.same("mend: the right length", roof.mend(1, 6), 17);
    }

    private static void promise10Cover() {
        SlateRoof roof = new SlateRoof();
        Check.same("cover: off before", roof.cover(true), 0);
        Check.same("cover: on", roof.count(10), 1);
        Check.same("cover: on before", roof.cover(true), 1);
        Check.same("cover: saved also without a change", roof.count(18), 2);
        Check.same("cover: off again", roof.cover(false), 1);
        Check.same("cover: off", roof.count(10), 0);
        roof.undo();
        Check.same("cover: undo", roof.count(10), 1);
    }

    private static void promise11Days() {
        SlateRoof roof = new SlateRoof();
        Check.same("pass: dry", roof.pass(0), 0);
        Check.same("pass: number", roof.count(7), 1);
        Check.same("pass: dry stays dry", roof.count(9), 0);
        roof.pass(1);
        Check.same("pass: rain", roof.count(9), 2);
        roof.set(2, 5);
        roof.pass(0);
        Check.same("pass: 1 day less", roof.count(9), 1);
        Check.same("pass: storm without courses", roof.pass(2), 0);
        Check.same("pass: storm is wet", roof.count(9), 5);
        roof.set(2, 1);
        roof.pass(1);
        Check.same("pass: as many days as the drying tells", roof.count(9), 1);
        roof.set(2, 3);
        roof.cover(true);
        roof.pass(1);
        Check.same("pass: rain on the cover", roof.count(9), 1);
        roof.pass(2);
        Check.same("pass: storm on the cover", roof.count(9), 1);
        roof.pass(0);
        Check.same("pass: dries under the cover", roof.count(9), 0);
        Check.same("pass: number in the end", roof.count(7), 8);
        roof.undo();
        Check.same("pass: undo, number", roof.count(7), 7);
        Check.same("pass: undo, damp", roof.count(9), 1);
        Check.badArgument("pass(-1)", roof, () -> roof.pass(-1));
        Check.badArgument("pass(3)", roof, () -> roof.pass(3));
    }

    private static SlateRoof twoCourses() {
        SlateRoof roof = new SlateRoof();
        Setup.buyWhole(roof, 20, 6);
        Setup.buyWhole(roof, 16, 7);
        roof.course(20);
        roof.lay(6);
        roof.course(16);
        roof.lay(7);
        return roof;
    }

    private static void promise11Storm() {
        SlateRoof roof = twoCourses();
        Check.same("storm 1: places 1 and 6 of the last, 3 below", roof.pass(2), 3);
        Check.same("storm 1: last, 1", roof.lies(1, 1), false);
        Check.same("storm 1: last, 6", roof.lies(1, 6), false);
        Check.same("storm 1: last, 5", roof.lies(1, 5), true);
        Check.same("storm 1: below, 3", roof.lies(0, 3), false);
        Check.same("storm 1: heap of 16", roof.slates(16, 1), 2);
        Check.same("storm 1: heap of 20", roof.slates(20, 1), 1);
        Check.same("storm 1: effort", roof.count(8), 20);
        Check.same("storm 1: gaps", roof.count(5), 3);
        roof.cover(true);
        Check.same("storm 2: under the cover", roof.pass(2), 0);
        Check.same("rain", roof.pass(1), 0);
        roof.cover(false);
        Check.same("storm 4: place 4 of the last, 1 below", roof.pass(2), 2);
        Check.same("storm 5: 0 and 5 of the last, 2 below", roof.pass(2), 3);
        Check.same("storm 6: 1 and 6 have fallen, 3 too", roof.pass(2), 0);
        roof.undo();
        roof.undo();
        Check.same("storm: undo", roof.lies(1, 5), true);
        Check.same("storm: undo, heap", roof.count(13), 5);
    }

    private static void promise11StormOnlyTwo() {
        SlateRoof roof = Setup.small();
        roof.begin(100, 4);
        Setup.buyWhole(roof, 8, 13);
        roof.course(8);
        roof.lay(4);
        Check.same("storm: one course", roof.pass(2), 1);
        roof.undo();
        roof.course(8);
        roof.lay(5);
        roof.course(8);
        roof.lay(4);
        Check.same("storm: third course from above", roof.pass(2), 2);
        Check.same("storm: it keeps its slates", roof.courseOf(0, 2), 4);
        Check.same("storm: the course below", roof.courseOf(1, 5), 3);
        Check.same("storm: the last course", roof.courseOf(2, 5), 1);
    }

    private static void promise11Done() {
        SlateRoof roof = Setup.smallDone();
        roof.pass(1);
        Check.same("done: rain leaves the days", roof.count(9), 0);
        Check.same("done: slates fall", roof.pass(2), 1);
        Check.same("done: it was so ahead of what falls", roof.count(9), 0);
        Check.same("done: no more", roof.count(6), 0);
        Check.same("done: the next storm", roof.pass(2), 2);
        Check.same("done: now it is wet", roof.count(9), 2);
    }

    private static void promise11DryDoneWhileDamp() {
        SlateRoof roof = Setup.smallDone();
        roof.begin(21, 4);
        Setup.buyWhole(roof, 24, 14);
        roof.pass(0);
        roof.course(24);
        roof.lay(4);
        roof.course(24);
        roof.lay(5);
        roof.pass(1);
        Check.same("damp: not high enough yet", roof.count(9), 2);
        roof.set(0, 2);
        Check.same("damp: done by the lap", roof.count(6), 1);
        roof.pass(1);
        Check.same("damp: rain on a done roof leaves the days", roof.count(9), 2);
        roof.pass(0);
        Check.same("damp: a dry day on a done roof", roof.count(9), 1);
    }

    private static void promise11Last() {
        SlateRoof roof = new SlateRoof();
        for (int time = 0; time < 4; time++) {
            Setup.work(roof, "d99d99d2");
        }
        Setup.work(roof, "d99d99");
        roof.pass(0);
        Check.same("pass: 999", roof.count(7), 999);
        roof.pass(0);
        Check.badState("pass: 1001", roof, () -> roof.pass(0));
        Check.badArgument("pass: weather first", roof, () -> roof.pass(3));
        Check.same("pass: 1000", roof.count(7), 1000);
    }

    public static void main(String[] args) {
        promise7Course();
        promise7Limits();
        promise7Hundred();
        promise8Lay();
        promise8Effort();
        promise8FillsGaps();
        promise9Mend();
        promise9Effort();
        promise9OtherLength();
        promise10Cover();
        promise11Days();
        promise11Storm();
        promise11StormOnlyTwo();
        promise11Done();
        promise11DryDoneWhileDamp();
        promise11Last();
        Check.end("WorkTest");
    }
}
