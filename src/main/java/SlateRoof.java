/** A roof that is slated, with its stock of slates, its days and its texts of days. README.md tells how to use it. */
public final class SlateRoof {
    public static final int NONE = -1;

    private static final int SHORTEST = 8;
    private static final int LONGEST = 24;
    private static final int LONGEST_CUT = 20;
    private static final int CUT_LOSS = 4;
    private static final int MOST_AT_ONCE = 200;
    private static final int MOST_LAID_AT_ONCE = 60;
    private static final int MOST_BOUGHT = 5000;
    private static final int MOST_COURSES = 100;
    private static final int MEND_EFFORT = 3;
    private static final int LAST_DAY = 1000;
    private static final int MOST_DAYS_OF_TEXT = 200;
    private static final int MOST_DRY_DAYS = 200;
    private static final int MOST_SIGNS = 60;
    private static final int MOST_SAVED = 6;

    private static final int LAP = 0;
    private static final int PACE = 1;
    private static final int DRYING = 2;
    private static final int[] LEAST_SETTINGS = {2, 1, 1};
    private static final int[] MOST_SETTINGS = {6, 60, 5};

    private static final int DRY = 0;
    private static final int RAIN = 1;
    private static final int STORM = 2;

    private final Roof now;
    private final Roof trial;
    private final Saves saves;
    private final DayText text;

    public SlateRoof() {
        now = new Roof();
        trial = new Roof();
        saves = new Saves();
        text = new DayText();
    }

    // ---- the roof and the slates

    public int begin(int height, int width) throws IllegalArgumentException {
        if (!isWithin(height, 20, 400) || !isWithin(width, 2, 30)) {
            throw new IllegalArgumentException("height or width is out of range");
        }
        saves.keep(now);
        int left = now.slatesOnRoof();
        now.elder += left;
        now.courses = 0;
        now.height = height;
        now.width = width;
        return left;
    }

    public int set(int setting, int value) throws IndexOutOfBoundsException, IllegalArgumentException {
        if (!isWithin(setting, LAP, DRYING)) {
            throw new IndexOutOfBoundsException("there is no such setting");
        }
        if (!isWithin(value, valueAt(LEAST_SETTINGS, setting), valueAt(MOST_SETTINGS, setting))) {
            throw new IllegalArgumentException("value is out of range");
        }
        saves.keep(now);
        int previous = now.settingOf(setting);
        now.changeSetting(setting, value);
        return previous;
    }

    public int buy(int length, int many, int seed) throws IllegalArgumentException, IllegalStateException {
        if (!isLength(length) || !isWithin(many, 1, MOST_AT_ONCE)) {
            throw new IllegalArgumentException("length or many is out of range");
        }
        if (sumOf(now.bought) + many > MOST_BOUGHT) {
            throw new IllegalStateException("too many slates would have been bought");
        }
        saves.keep(now);
        int broken = brokenAmong(many, seed);
        addAt(now.bought, length, many);
        addAt(now.stock, length, many - broken);
        addAt(now.heap, length, broken);
        now.cost += many * priceOf(length);
        return broken;
    }

    public int recut(int length, int to, int many) throws IllegalArgumentException, IllegalStateException {
        if (!isLength(length) || !isWithin(to, SHORTEST, LONGEST_CUT) || !isWithin(many, 1, MOST_AT_ONCE)
                || to > length - CUT_LOSS) {
            throw new IllegalArgumentException("an argument is out of range");
        }
        if (valueAt(now.heap, length) < many) {
            throw new IllegalStateException("there are not so many broken ones");
        }
        saves.keep(now);
        addAt(now.heap, length, -many);
        addAt(now.stock, to, many);
        now.cut += many;
        return valueAt(now.heap, length);
    }

    public int clearHeap(int length) throws IllegalArgumentException {
        if (!isWithin(length, SHORTEST, LONGEST + 1)) {
            throw new IllegalArgumentException("length is out of range");
        }
        saves.keep(now);
        int cleared = 0;
        for (int shorter = SHORTEST; shorter < length; shorter++) {
            int broken = valueAt(now.heap, shorter);
            addAt(now.heap, shorter, -broken);
            cleared += broken;
        }
        now.thrown += cleared;
        return cleared;
    }

    // ---- work

    public int course(int length) throws IllegalArgumentException, IllegalStateException {
        if (!isLength(length)) {
            throw new IllegalArgumentException("length is out of range");
        }
        if (!now.canBeSlated() || !now.canGoUp() || length > now.longestNext()) {
            throw new IllegalStateException("the course cannot be begun");
        }
        saves.keep(now);
        now.addCourse(length);
        return now.courses - 1;
    }

    public int lay(int many) throws IllegalArgumentException, IllegalStateException {
        if (!isWithin(many, 1, MOST_LAID_AT_ONCE)) {
            throw new IllegalArgumentException("many is out of range");
        }
        if (!now.canBeSlated() || !now.canLay(many)) {
            throw new IllegalStateException("so many slates cannot be laid");
        }
        saves.keep(now);
        int last = now.courses - 1;
        for (int slate = 0; slate < many; slate++) {
            now.putSlate(last, now.firstGap(last), 1);
        }
        return now.slatesIn(last);
    }

    public int mend(int course, int place) throws IndexOutOfBoundsException, IllegalStateException {
        if (!now.hasPlace(course, place)) {
            throw new IndexOutOfBoundsException("there is no such course or place");
        }
        if (!now.canBeSlated() || !now.canMend(course, place)) {
            throw new IllegalStateException("the place cannot be mended");
        }
        saves.keep(now);
        now.putSlate(course, place, MEND_EFFORT);
        return now.effort;
    }

    public int cover(boolean on) {
        saves.keep(now);
        int before = now.covered ? 1 : 0;
        now.covered = on;
        return before;
    }

    public int pass(int weather) throws IllegalArgumentException, IllegalStateException {
        if (!isWithin(weather, DRY, STORM)) {
            throw new IllegalArgumentException("weather is out of range");
        }
        if (now.day >= LAST_DAY) {
            throw new IllegalStateException("the last day has come");
        }
        saves.keep(now);
        return now.passDay(weather);
    }

    // ---- texts

    public int append(int code) throws IllegalArgumentException, IllegalStateException {
        if (!isWithin(code, 33, 126)) {
            throw new IllegalArgumentException("code is out of range");
        }
        if (text.length >= MOST_SIGNS) {
            throw new IllegalStateException("the buffer is full");
        }
        text.addSign((char) code);
        return text.length;
    }

    public int clearBuffer() {
        int had = text.length;
        text.length = 0;
        return had;
    }

    public int firstError() {
        return text.firstWrong();
    }

    public int work() throws IllegalArgumentException, IllegalStateException {
        if (!text.isComplete()) {
            throw new IllegalArgumentException("the buffer is not a complete row of days");
        }
        int days = text.readParts();
        if (days > MOST_DAYS_OF_TEXT || now.day + days > LAST_DAY) {
            throw new IllegalStateException("there are too many days");
        }
        saves.keep(now);
        int placed = 0;
        for (int part = 0; part < text.parts; part++) {
            int weather = valueAt(text.weathers, part);
            int repeats = valueAt(text.repeats, part);
            for (int day = 0; day < repeats; day++) {
                now.passDay(weather);
                placed += now.slateForTheDay();
            }
        }
        text.length = 0;
        return placed;
    }

    public int undo() throws IllegalStateException {
        if (saves.many == 0) {
            throw new IllegalStateException("there is no saved state");
        }
        saves.bringBack(now);
        return saves.many;
    }

    // ---- what there is

    public int courseOf(int course, int what) throws IndexOutOfBoundsException, IllegalArgumentException {
        if (!now.hasCourse(course)) {
            throw new IndexOutOfBoundsException("there is no such course");
        }
        switch (what) {
            case 0: return valueAt(now.lengths, course);
            case 1: return now.placesOf(course);
            case 2: return now.slatesIn(course);
            case 3: return now.gaugeOf(valueAt(now.lengths, course));
            case 4: return now.topOf(course);
            case 5: return now.firstGap(course);
            case 6: return now.lastGap(course);
            default: throw new IllegalArgumentException("there is no such property");
        }
    }

    public boolean lies(int course, int place) throws IndexOutOfBoundsException {
        if (!now.hasPlace(course, place)) {
            throw new IndexOutOfBoundsException("there is no such course or place");
        }
        return now.hasSlate(course, place);
    }

    public int slates(int length, int what) throws IllegalArgumentException {
        if (!isLength(length)) {
            throw new IllegalArgumentException("length is out of range");
        }
        switch (what) {
            case 0: return valueAt(now.stock, length);
            case 1: return valueAt(now.heap, length);
            case 2: return now.slatesOnRoofOf(length);
            case 3: return valueAt(now.bought, length);
            case 4: return priceOf(length);
            default: throw new IllegalArgumentException("what is out of range");
        }
    }

    public int count(int what) throws IllegalArgumentException {
        switch (what) {
            case 0: return now.height;
            case 1: return now.width;
            case 2: return now.courses;
            case 3: return now.topOf(now.courses - 1);
            case 4: return now.slatesOnRoof();
            case 5: return now.gapsOnRoof();
            case 6: return now.isDone() ? 1 : 0;
            case 7: return now.day;
            case 8: return now.effort;
            case 9: return now.damp;
            case 10: return now.covered ? 1 : 0;
            case 11: return sumOf(now.bought);
            case 12: return sumOf(now.stock);
            case 13: return sumOf(now.heap);
            case 14: return now.cut;
            case 15: return now.thrown;
            case 16: return now.elder;
            case 17: return now.cost;
            case 18: return saves.many;
            default: throw new IllegalArgumentException("what is out of range");
        }
    }

    public int setting(int setting) throws IndexOutOfBoundsException {
        if (!isWithin(setting, LAP, DRYING)) {
            throw new IndexOutOfBoundsException("there is no such setting");
        }
        return now.settingOf(setting);
    }

    // ---- what would be; nothing is changed

    public int toTop(int length, int what) throws IllegalArgumentException {
        if (!isLength(length) || !isWithin(what, 0, 1)) {
            throw new IllegalArgumentException("length or what is out of range");
        }
        if (length > now.longestNext()) {
            return NONE;
        }
        int further = now.coursesToTop(length);
        return what == 0 ? further : now.placesOfNext(further);
    }

    public int reach(int what) throws IllegalArgumentException {
        if (!isWithin(what, 0, 3)) {
            throw new IllegalArgumentException("what is out of range");
        }
        trial.copyFrom(now);
        trial.buildFromStock();
        int added = trial.courses - now.courses;
        switch (what) {
            case 0: return added;
            case 1: return trial.topOf(trial.courses - 1);
            case 2: return sumOf(trial.stock);
            default: return added == 0 ? NONE : trial.longestNext();
        }
    }

    public int dryDays() {
        if (now.isDone()) {
            return 0;
        }
        trial.copyFrom(now);
        trial.covered = false;
        for (int days = 1; days <= MOST_DRY_DAYS; days++) {
            trial.passDay(DRY);
            int placed = trial.slateForTheDay();
            if (trial.isDone()) {
                return days;
            }
            // each further dry day would be the same as one on a dry deck on which nothing was placed
            if (placed == 0 && trial.canBeSlated()) {
                return NONE;
            }
        }
        return NONE;
    }

    public int bestLength() {
        if (now.isHighEnough()) {
            return NONE;
        }
        int best = NONE;
        int least = 0;
        for (int length = now.longestNext(); length >= SHORTEST; length--) {
            int price = now.placesOfNext(now.coursesToTop(length)) * priceOf(length);
            if (best == NONE || price < least) {
                best = length;
                least = price;
            }
        }
        return best;
    }

    public double meanPrice() {
        int used = now.slatesOnRoof() + now.elder;
        if (used <= 0) {
            return 0.0;
        }
        return (double) now.cost / (double) used;
    }

    public long digest() {
        long hash = 2273L;
        for (int what = 0; what <= 18; what++) {
            hash = mixed(hash, count(what));
        }
        for (int setting = LAP; setting <= DRYING; setting++) {
            hash = mixed(hash, setting(setting));
        }
        hash = withLengths(hash);
        hash = withCourses(hash);
        for (int what = 0; what <= 3; what++) {
            hash = mixed(hash, reach(what));
        }
        hash = mixed(hash, dryDays());
        hash = mixed(hash, bestLength());
        hash = mixed(hash, bitsOf(meanPrice()));
        hash = mixed(hash, text.length);
        for (int index = 0; index < text.length; index++) {
            hash = mixed(hash, text.signAt(index));
        }
        return hash;
    }

    private long withLengths(long start) {
        long hash = start;
        for (int length = SHORTEST; length <= LONGEST; length++) {
            for (int what = 0; what <= 3; what++) {
                hash = mixed(hash, slates(length, what));
            }
            hash = mixed(hash, toTop(length, 0));
            hash = mixed(hash, toTop(length, 1));
        }
        return hash;
    }

    private long withCourses(long start) {
        long hash = start;
        for (int course = 0; course < now.courses; course++) {
            for (int what = 0; what <= 6; what++) {
                hash = mixed(hash, courseOf(course, what));
            }
            int places = now.placesOf(course);
            for (int place = 0; place < places; place++) {
                hash = mixed(hash, now.hasSlate(course, place) ? 1 : 0);
            }
        }
        return hash;
    }

    private static long mixed(long hash, long value) {
        return 31L * hash + value;
    }

    /**
     * The bits that Double.doubleToLongBits tells, which the language rules leave out.
     * A mean price is 0 or an ordinary positive number, and scaling by 2 is exact for those.
     */
    private static long bitsOf(double value) {
        if (!(value > 0.0)) {
            return 0L;
        }
        double scaled = value;
        long exponent = 1023L;
        for (int halving = 0; halving < 1023 && scaled >= 2.0; halving++) {
            scaled = scaled / 2.0;
            exponent++;
        }
        for (int doubling = 0; doubling < 1022 && scaled < 1.0; doubling++) {
            scaled = scaled * 2.0;
            exponent--;
        }
        long fraction = (long) ((scaled - 1.0) * 4503599627370496.0);
        return (exponent << 52) | fraction;
    }

    private static boolean isWithin(int value, int least, int most) {
        return value >= least && value <= most;
    }

    private static boolean isLength(int length) {
        return length >= SHORTEST && length <= LONGEST;
    }

    private static int priceOf(int length) {
        return length * length / 16;
    }

    private static int brokenAmong(int many, int firstSeed) {
        int seed = firstSeed;
        int broken = 0;
        for (int slate = 0; slate < many; slate++) {
            seed = seed * 1103515245 + 12345;
            if (((seed >>> 16) & 32767) % 10 == 0) {
                broken++;
            }
        }
        return broken;
    }

    private static int valueAt(int[] row, int index) {
        return index >= 0 && index < row.length ? row[index] : 0;
    }

    private static void addAt(int[] row, int index, int more) {
        if (index >= 0 && index < row.length) {
            row[index] += more;
        }
    }

    private static int sumOf(int[] row) {
        int sum = 0;
        for (int index = 0; index < row.length; index++) {
            sum += row[index];
        }
        return sum;
    }

    private static void copyRow(int[] from, int[] to) {
        System.arraycopy(from, 0, to, 0, Math.min(from.length, to.length));
    }

    /** All that undo brings back. It is copied into rows that are there, since all calls of a run share one room. */
    private static final class Roof {
        int height = 100;
        int width = 6;
        int courses;
        final int[] lengths = new int[MOST_COURSES];
        /** By courses: bit p is 1 if a slate lies at place p; a course has at most 31 places. */
        final int[] laid = new int[MOST_COURSES];
        final int[] stock = new int[LONGEST + 1];
        final int[] heap = new int[LONGEST + 1];
        final int[] bought = new int[LONGEST + 1];
        int lap = 4;
        int pace = 20;
        int drying = 2;
        int day;
        int effort = 20;
        int damp;
        boolean covered;
        int cut;
        int thrown;
        int elder;
        int cost;

        void copyFrom(Roof other) {
            height = other.height;
            width = other.width;
            courses = other.courses;
            copyRow(other.lengths, lengths);
            copyRow(other.laid, laid);
            copyRow(other.stock, stock);
            copyRow(other.heap, heap);
            copyRow(other.bought, bought);
            lap = other.lap;
            pace = other.pace;
            drying = other.drying;
            day = other.day;
            effort = other.effort;
            damp = other.damp;
            covered = other.covered;
            cut = other.cut;
            thrown = other.thrown;
            elder = other.elder;
            cost = other.cost;
        }

        int settingOf(int setting) {
            switch (setting) {
                case LAP: return lap;
                case PACE: return pace;
                default: return drying;
            }
        }

        void changeSetting(int setting, int value) {
            switch (setting) {
                case LAP: lap = value; break;
                case PACE: pace = value; break;
                default: drying = value; break;
            }
        }

        boolean hasCourse(int course) {
            return course >= 0 && course < courses;
        }

        boolean hasPlace(int course, int place) {
            return hasCourse(course) && place >= 0 && place < placesOf(course);
        }

        int placesOf(int course) {
            return course % 2 == 0 ? width : width + 1;
        }

        boolean hasSlate(int course, int place) {
            return (valueAt(laid, course) >>> place & 1) == 1;
        }

        int slatesIn(int course) {
            return Integer.bitCount(valueAt(laid, course));
        }

        boolean isFull(int course) {
            return slatesIn(course) >= placesOf(course);
        }

        int firstGap(int course) {
            int places = placesOf(course);
            for (int place = 0; place < places; place++) {
                if (!hasSlate(course, place)) {
                    return place;
                }
            }
            return NONE;
        }

        int lastGap(int course) {
            for (int place = placesOf(course) - 1; place >= 0; place--) {
                if (!hasSlate(course, place)) {
                    return place;
                }
            }
            return NONE;
        }

        int gaugeOf(int length) {
            return (length - lap) / 2;
        }

        /** 0 for the course below the first one: a roof without courses has no height yet. */
        int topOf(int course) {
            int top = 0;
            for (int lower = 0; lower <= course && lower < courses; lower++) {
                top += gaugeOf(valueAt(lengths, lower));
            }
            return top;
        }

        boolean isHighEnough() {
            return topOf(courses - 1) >= height;
        }

        int slatesOnRoof() {
            int many = 0;
            for (int course = 0; course < courses; course++) {
                many += slatesIn(course);
            }
            return many;
        }

        int slatesOnRoofOf(int length) {
            int many = 0;
            for (int course = 0; course < courses; course++) {
                if (valueAt(lengths, course) == length) {
                    many += slatesIn(course);
                }
            }
            return many;
        }

        int gapsOnRoof() {
            int gaps = 0;
            for (int course = 0; course < courses; course++) {
                gaps += placesOf(course) - slatesIn(course);
            }
            return gaps;
        }

        boolean isDone() {
            return isHighEnough() && gapsOnRoof() == 0;
        }

        /** The greatest length that the next course may have, in stock or not. */
        int longestNext() {
            return courses > 0 ? valueAt(lengths, courses - 1) : LONGEST;
        }

        boolean canBeSlated() {
            return !covered && damp == 0;
        }

        /** Whether the last course leaves room for one more; the length does not matter yet. */
        boolean canGoUp() {
            return courses < MOST_COURSES && !isHighEnough() && (courses == 0 || isFull(courses - 1));
        }

        boolean canLay(int many) {
            int last = courses - 1;
            return hasCourse(last) && placesOf(last) - slatesIn(last) >= many
                    && valueAt(stock, valueAt(lengths, last)) >= many && effort >= many;
        }

        boolean canMend(int course, int place) {
            return hasPlace(course, place) && !hasSlate(course, place)
                    && valueAt(stock, valueAt(lengths, course)) > 0 && effort >= MEND_EFFORT;
        }

        void addCourse(int length) {
            if (courses >= 0 && courses < lengths.length && courses < laid.length) {
                lengths[courses] = length;
                laid[courses] = 0;
                courses++;
            }
        }

        void putSlate(int course, int place, int taken) {
            if (hasPlace(course, place) && !hasSlate(course, place)) {
                addAt(laid, course, 1 << place);
                addAt(stock, valueAt(lengths, course), -1);
                effort -= taken;
            }
        }

        int passDay(int weather) {
            day++;
            if (weather == DRY) {
                damp = Math.max(0, damp - 1);
            } else if (!covered && !isDone()) {
                damp = drying;
            }
            int fallen = 0;
            if (weather == STORM && !covered) {
                fallen = dropSlates(courses - 1, day % 5) + dropSlates(courses - 2, (day + 2) % 5);
            }
            effort = pace;
            return fallen;
        }

        int dropSlates(int course, int firstPlace) {
            if (!hasCourse(course)) {
                return 0;
            }
            int fallen = 0;
            int places = placesOf(course);
            for (int place = firstPlace; place < places; place += 5) {
                if (hasSlate(course, place)) {
                    addAt(laid, course, -(1 << place));
                    fallen++;
                }
            }
            addAt(heap, valueAt(lengths, course), fallen);
            return fallen;
        }

        /** Lets the slaters go on until no step is possible, and tells how many slates they placed. */
        int slateForTheDay() {
            int placed = 0;
            for (int step = 0; step < 1000000 && canBeSlated(); step++) {
                if (mendFirstGap() || layNext()) {
                    placed++;
                } else if (canGoUp() && nextLength() != NONE) {
                    addCourse(nextLength());
                } else {
                    break;
                }
            }
            return placed;
        }

        boolean mendFirstGap() {
            for (int course = 0; course < courses - 1; course++) {
                if (!isFull(course)) {
                    int place = firstGap(course);
                    boolean possible = canMend(course, place);
                    if (possible) {
                        putSlate(course, place, MEND_EFFORT);
                    }
                    return possible;
                }
            }
            return false;
        }

        boolean layNext() {
            boolean possible = canLay(1);
            if (possible) {
                putSlate(courses - 1, firstGap(courses - 1), 1);
            }
            return possible;
        }

        /** The greatest length that may come next and is in stock for a whole course, NONE if there is none. */
        int nextLength() {
            int places = placesOf(courses);
            for (int length = longestNext(); length >= SHORTEST; length--) {
                if (valueAt(stock, length) >= places) {
                    return length;
                }
            }
            return NONE;
        }

        /** Adds the courses that the stock is enough for, without asking for days, effort or places below. */
        void buildFromStock() {
            for (int course = courses; course < MOST_COURSES && !isHighEnough(); course++) {
                int length = nextLength();
                if (length == NONE) {
                    break;
                }
                addAt(stock, length, -placesOf(course));
                addCourse(length);
            }
        }

        int coursesToTop(int length) {
            int missing = height - topOf(courses - 1);
            int gauge = gaugeOf(length);
            return missing > 0 && gauge > 0 ? (missing + gauge - 1) / gauge : 0;
        }

        /** How many places the next courses have: each with an odd number has one more than the width tells. */
        int placesOfNext(int further) {
            int odd = (courses + further) / 2 - courses / 2;
            return further * width + odd;
        }
    }

    /** The saved states, as a ring: the oldest one is written over. */
    private static final class Saves {
        final Roof[] ring = new Roof[MOST_SAVED];
        int oldest;
        int many;

        Saves() {
            for (int slot = 0; slot < ring.length; slot++) {
                ring[slot] = new Roof();
            }
        }

        void keep(Roof roof) {
            Roof slot = slotAt(oldest + many);
            if (slot != null) {
                slot.copyFrom(roof);
            }
            if (many < MOST_SAVED) {
                many++;
            } else {
                oldest = (oldest + 1) % MOST_SAVED;
            }
        }

        void bringBack(Roof roof) {
            if (many > 0) {
                many--;
                Roof slot = slotAt(oldest + many);
                if (slot != null) {
                    roof.copyFrom(slot);
                }
            }
        }

        Roof slotAt(int number) {
            int index = number % MOST_SAVED;
            return index >= 0 && index < ring.length ? ring[index] : null;
        }
    }

    /** The buffer, and the row of days in it. */
    private static final class DayText {
        // what stands last ahead of the next sign; a lone 1 can only be the begin of 10 to 19
        static final int WRONG = -1;
        static final int NOTHING = 0;
        static final int LETTER = 1;
        static final int LONE_ONE = 2;
        static final int DIGIT = 3;
        static final int TWO_DIGITS = 4;

        final char[] signs = new char[MOST_SIGNS];
        int length;
        final int[] weathers = new int[MOST_SIGNS];
        final int[] repeats = new int[MOST_SIGNS];
        int parts;

        void addSign(char sign) {
            if (length >= 0 && length < signs.length) {
                signs[length] = sign;
                length++;
            }
        }

        char signAt(int index) {
            return index >= 0 && index < signs.length ? signs[index] : 0;
        }

        int firstWrong() {
            int last = NOTHING;
            for (int index = 0; index < length; index++) {
                last = after(last, signAt(index));
                if (last == WRONG) {
                    return index;
                }
            }
            return length;
        }

        boolean isComplete() {
            int last = NOTHING;
            for (int index = 0; index < length && last != WRONG; index++) {
                last = after(last, signAt(index));
            }
            return last == LETTER || last == DIGIT || last == TWO_DIGITS;
        }

        /** Takes a complete row apart, and tells how many days it has. */
        int readParts() {
            int days = 0;
            int index = 0;
            int part = 0;
            while (index < length && part < weathers.length && part < repeats.length) {
                weathers[part] = weatherOf(signAt(index));
                index++;
                int number = 0;
                while (index < length && isDigit(signAt(index))) {
                    number = number * 10 + (signAt(index) - '0');
                    index++;
                }
                repeats[part] = Math.max(1, number);
                days += repeats[part];
                part++;
            }
            parts = part;
            return days;
        }

        static int after(int last, char sign) {
            if (weatherOf(sign) != NONE) {
                return last == LONE_ONE ? WRONG : LETTER;
            }
            if (!isDigit(sign)) {
                return WRONG;
            }
            switch (last) {
                case LETTER:
                    if (sign == '0') {
                        return WRONG;
                    }
                    return sign == '1' ? LONE_ONE : DIGIT;
                case LONE_ONE:
                case DIGIT:
                    return TWO_DIGITS;
                default:
                    return WRONG;
            }
        }

        static boolean isDigit(char sign) {
            return sign >= '0' && sign <= '9';
        }

        static int weatherOf(char sign) {
            switch (sign) {
                case 'd': return DRY;
                case 'r': return RAIN;
                case 's': return STORM;
                default: return NONE;
            }
        }
    }
}
