/** Roofs and slates for the tests. */
final class Setup {
    private Setup() {
    }

    private static int brokenAmong(int many, int seed) {
        int broken = 0;
        for (int slate = 0; slate < many; slate++) {
            seed = seed * 1103515245 + 12345;
            broken += (seed >> 16 & 0x7fff) % 10 == 0 ? 1 : 0;
        }
        return broken;
    }

    /** A seed with which so many slates of so many are broken. */
    static int seedFor(int many, int broken) {
        for (int seed = 0; seed < 10000000; seed++) {
            if (brokenAmong(many, seed) == broken) {
                return seed;
            }
        }
        throw new IllegalStateException("no such seed");
    }

    static void buyWhole(SlateRoof roof, int length, int many) {
        for (int left = many; left > 0; left -= 30) {
            int part = Math.min(left, 30);
            Check.same("whole ones", roof.buy(length, part, seedFor(part, 0)), 0);
        }
    }

    /** At most 4, since seeds for more are rare. */
    static void buyBroken(SlateRoof roof, int length, int many) {
        Check.same("broken ones", roof.buy(length, many, seedFor(many, many)), many);
    }

    static void write(SlateRoof roof, String text) {
        roof.clearBuffer();
        for (int index = 0; index < text.length(); index++) {
            roof.append(text.charAt(index));
        }
    }

    static int work(SlateRoof roof, String text) {
        write(roof, text);
        return roof.work();
    }

    /** Height 20, width 4: two courses of length 24, of 4 and 5 places, are enough. */
    static SlateRoof small() {
        SlateRoof roof = new SlateRoof();
        roof.begin(20, 4);
        return roof;
    }

    /** As small(), with nine slates of length 24, all laid; the effort left is 11. */
    static SlateRoof smallDone() {
        SlateRoof roof = small();
        buyWhole(roof, 24, 9);
        roof.course(24);
        roof.lay(4);
        roof.course(24);
        roof.lay(5);
        return roof;
    }
}
