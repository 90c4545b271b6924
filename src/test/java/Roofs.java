/** Roofs for the edges: each call makes the same one anew. */
final class Roofs {
    private Roofs() {
    }

    /** Height 100, width 6: courses of 20 and 16, with gaps at 0.3, 1.1 and 1.6; day 3, dry, effort 20. */
    static SlateRoof pair(int of20, int of16) {
        SlateRoof roof = new SlateRoof();
        Setup.buyWhole(roof, 20, 6 + of20);
        Setup.buyWhole(roof, 16, 7 + of16);
        roof.course(20);
        roof.lay(6);
        roof.course(16);
        roof.lay(7);
        roof.pass(2);
        roof.pass(0);
        roof.pass(0);
        return roof;
    }

    /** pair() with stock, a heap (1 of 20, 2 of 16, 2 of 24) and a text. */
    static SlateRoof busy() {
        SlateRoof roof = pair(3, 5);
        Setup.buyBroken(roof, 24, 2);
        Setup.write(roof, "d2");
        return roof;
    }

    /** Courses of 20, 16 and 12, with gaps at 0.3, 1.1, 1.6 and 2.4; day 6, dry, effort as the pace. */
    static SlateRoof gappy(int of20, int of16, int of12, int pace) {
        SlateRoof roof = pair(of20, 2 + of16);
        Setup.buyWhole(roof, 12, 6 + of12);
        roof.lay(2);
        roof.course(12);
        roof.lay(6);
        roof.pass(2);
        roof.set(1, pace);
        roof.pass(0);
        roof.pass(0);
        return roof;
    }

    /** Height 250, width 2, lap 6: so many full courses of length 8, each of gauge 1, and no slates in stock. */
    static SlateRoof tower(int courses) {
        SlateRoof roof = new SlateRoof();
        roof.begin(250, 2);
        roof.set(0, 6);
        roof.set(1, 60);
        Setup.buyWhole(roof, 8, courses * 2 + courses / 2);
        Setup.work(roof, "d5");
        return roof;
    }

    /** Width 30: up to three full courses of 20, 16 and 12; day 2, and no slates in stock. */
    static SlateRoof wide(int courses) {
        SlateRoof roof = new SlateRoof();
        roof.begin(400, 30);
        roof.set(1, 60);
        roof.pass(0);
        int[] lengths = {20, 16, 12};
        for (int course = 0; course < courses; course++) {
            Setup.buyWhole(roof, lengths[course], 30 + course % 2);
            roof.course(lengths[course]);
            roof.lay(30);
            if (course == 1) {
                roof.pass(0);
                roof.lay(1);
            }
        }
        while (roof.count(7) < 2) {
            roof.pass(0);
        }
        return roof;
    }

    /** Two full courses of 24 on a width of 4: their top is 20, the effort left 11. */
    static SlateRoof twoOf24(int height) {
        SlateRoof roof = new SlateRoof();
        roof.begin(height, 4);
        Setup.buyWhole(roof, 24, 9);
        roof.course(24);
        roof.lay(4);
        roof.course(24);
        roof.lay(5);
        return roof;
    }

    /** A done roof after a storm on day 1: gaps at 0.3 and 1.1, dry, and so many of 24 in stock. */
    static SlateRoof stormed(int of24) {
        SlateRoof roof = twoOf24(20);
        roof.pass(2);
        if (of24 > 0) {
            Setup.buyWhole(roof, 24, of24);
        }
        return roof;
    }

    /** Width 4, one full course of this length below so many slates in stock of another length. */
    static SlateRoof above(int length, int other, int many) {
        SlateRoof roof = new SlateRoof();
        roof.begin(100, 4);
        Setup.buyWhole(roof, length, 4);
        roof.course(length);
        roof.lay(4);
        if (many > 0) {
            Setup.buyWhole(roof, other, many);
        }
        return roof;
    }

    static SlateRoof withEffort(SlateRoof roof, int effort) {
        roof.set(1, effort);
        roof.pass(0);
        return roof;
    }

    static SlateRoof withDamp(SlateRoof roof, int days) {
        roof.set(2, days);
        roof.pass(1);
        return roof;
    }

    static SlateRoof covered(SlateRoof roof) {
        roof.cover(true);
        return roof;
    }

    static SlateRoof written(SlateRoof roof, String text) {
        Setup.write(roof, text);
        return roof;
    }

    /** No courses, no slates, and the number of the day. */
    static SlateRoof onDay(int day) {
        SlateRoof roof = new SlateRoof();
        int left = day;
        while (left > 0) {
            int some = Math.min(left, 99);
            Setup.work(roof, some == 1 ? "d" : "d" + some);
            left -= some;
        }
        return roof;
    }

    /** 24 * 200 and so many more slates bought, all of length 8. */
    static SlateRoof bought(int more) {
        SlateRoof roof = new SlateRoof();
        for (int time = 0; time < 24; time++) {
            roof.buy(8, 200, time);
        }
        if (more > 0) {
            roof.buy(8, more, 24);
        }
        return roof;
    }
}
