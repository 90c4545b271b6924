import java.util.ArrayDeque;
import java.util.ArrayList;
import java.util.Arrays;
import java.util.Deque;
import java.util.List;
import java.util.regex.Matcher;
import java.util.regex.Pattern;

/**
 * The document a second time, written as plainly as the Java library allows and without a look at SlateRoof:
 * places as booleans, texts as regular expressions, saved states as new objects.
 */
final class Model {
    static final class Row {
        final int length;
        final boolean[] places;

        Row(int length, int places) {
            this.length = length;
            this.places = new boolean[places];
        }

        Row(Row other) {
            length = other.length;
            places = other.places.clone();
        }

        int lying() {
            int n = 0;
            for (boolean lies : places) {
                n += lies ? 1 : 0;
            }
            return n;
        }

        int first() {
            for (int p = 0; p < places.length; p++) {
                if (!places[p]) {
                    return p;
                }
            }
            return -1;
        }

        int last() {
            int found = -1;
            for (int p = 0; p < places.length; p++) {
                found = places[p] ? found : p;
            }
            return found;
        }
    }

    static final class State {
        int height = 100;
        int width = 6;
        List<Row> rows = new ArrayList<>();
        int[] stock = new int[30];
        int[] heap = new int[30];
        int[] bought = new int[30];
        int[] settings = {4, 20, 2};
        int day;
        int effort = 20;
        int damp;
        boolean cover;
        int cut;
        int thrown;
        int elder;

        State copy() {
            State c = new State();
            c.height = height;
            c.width = width;
            for (Row row : rows) {
                c.rows.add(new Row(row));
            }
            c.stock = stock.clone();
            c.heap = heap.clone();
            c.bought = bought.clone();
            c.settings = settings.clone();
            c.day = day;
            c.effort = effort;
            c.damp = damp;
            c.cover = cover;
            c.cut = cut;
            c.thrown = thrown;
            c.elder = elder;
            return c;
        }

        int gauge(int length) {
            return Math.floorDiv(length - settings[0], 2);
        }

        int top() {
            return rows.stream().mapToInt(r -> gauge(r.length)).sum();
        }

        int lying() {
            return rows.stream().mapToInt(Row::lying).sum();
        }

        int lastLength() {
            return rows.isEmpty() ? 24 : rows.get(rows.size() - 1).length;
        }

        boolean done() {
            return !rows.isEmpty() && top() >= height && rows.stream().allMatch(r -> r.first() < 0);
        }

        int placesAt(int number) {
            return width + number % 2;
        }

        boolean slatable() {
            return !cover && damp == 0;
        }

        int fall(int number, int rest) {
            if (number < 0) {
                return 0;
            }
            Row row = rows.get(number);
            int fallen = 0;
            for (int p = 0; p < row.places.length; p++) {
                if (row.places[p] && p % 5 == rest) {
                    row.places[p] = false;
                    heap[row.length]++;
                    fallen++;
                }
            }
            return fallen;
        }

        int day(int weather) {
            day++;
            boolean done = done();
            if (weather != 0 && !cover && !done) {
                damp = settings[2];
            } else if (weather == 0 && damp > 0) {
                damp--;
            }
            int fallen = 0;
            if (weather == 2 && !cover) {
                fallen += fall(rows.size() - 1, day % 5);
                fallen += fall(rows.size() - 2, (day + 2) % 5);
            }
            effort = settings[1];
            return fallen;
        }

        /** 0 if no step is possible, 1 if a slate was placed, 2 if a course was begun. */
        int step() {
            Row gap = null;
            for (int i = 0; i + 1 < rows.size() && gap == null; i++) {
                gap = rows.get(i).first() >= 0 ? rows.get(i) : null;
            }
            if (gap != null && effort >= 3 && stock[gap.length] > 0) {
                gap.places[gap.first()] = true;
                stock[gap.length]--;
                effort -= 3;
                return 1;
            }
            Row last = rows.isEmpty() ? null : rows.get(rows.size() - 1);
            if (last != null && last.first() >= 0) {
                if (effort >= 1 && stock[last.length] > 0) {
                    last.places[last.first()] = true;
                    stock[last.length]--;
                    effort--;
                    return 1;
                }
                return 0;
            }
            if (last != null && top() >= height || rows.size() >= 100) {
                return 0;
            }
            int places = placesAt(rows.size());
            for (int length = lastLength(); length >= 8; length--) {
                if (stock[length] >= places) {
                    rows.add(new Row(length, places));
                    return 2;
                }
            }
            return 0;
        }

        int slate() {
            int placed = 0;
            while (slatable()) {
                int step = step();
                if (step == 0) {
                    break;
                }
                placed += step == 1 ? 1 : 0;
            }
            return placed;
        }
    }

    private static final Pattern PREFIX = Pattern.compile("([drs]([1-9][0-9]|[2-9])?)*([drs]1)?");
    private static final Pattern WHOLE = Pattern.compile("([drs]([1-9][0-9]|[2-9])?)+");
    private static final Pattern PART = Pattern.compile("([drs])([0-9]*)");

    State s = new State();
    final Deque<State> saved = new ArrayDeque<>();
    String buffer = "";

    private static void argument(boolean ok) {
        if (!ok) {
            throw new IllegalArgumentException();
        }
    }

    private static void state(boolean ok) {
        if (!ok) {
            throw new IllegalStateException();
        }
    }

    private static void index(boolean ok) {
        if (!ok) {
            throw new IndexOutOfBoundsException();
        }
    }

    private static boolean in(int v, int low, int high) {
        return low <= v && v <= high;
    }

    private void save() {
        saved.addLast(s.copy());
        if (saved.size() > 6) {
            saved.removeFirst();
        }
    }

    int begin(int height, int width) {
        argument(in(height, 20, 400) && in(width, 2, 30));
        save();
        int lay = s.lying();
        s.elder += lay;
        s.rows.clear();
        s.height = height;
        s.width = width;
        return lay;
    }

    int set(int setting, int value) {
        index(in(setting, 0, 2));
        argument(setting == 0 ? in(value, 2, 6) : setting == 1 ? in(value, 1, 60) : in(value, 1, 5));
        save();
        int old = s.settings[setting];
        s.settings[setting] = value;
        return old;
    }

    int buy(int length, int many, int seed) {
        argument(in(length, 8, 24) && in(many, 1, 200));
        state(Arrays.stream(s.bought).sum() + many <= 5000);
        save();
        int broken = 0;
        for (int i = 0; i < many; i++) {
            seed = seed * 1103515245 + 12345;
            int bits = 0;
            for (int bit = 30; bit >= 16; bit--) {
                bits = bits * 2 + ((seed & (1 << bit)) != 0 ? 1 : 0);
            }
            if (bits % 10 == 0) {
                s.heap[length]++;
                broken++;
            } else {
                s.stock[length]++;
            }
            s.bought[length]++;
        }
        return broken;
    }

    int recut(int length, int to, int many) {
        argument(in(length, 8, 24) && in(to, 8, 20) && in(many, 1, 200) && to <= length - 4);
        state(s.heap[length] >= many);
        save();
        s.heap[length] -= many;
        s.stock[to] += many;
        s.cut += many;
        return s.heap[length];
    }

    int clearHeap(int length) {
        argument(in(length, 8, 25));
        save();
        int n = 0;
        for (int i = 0; i < length; i++) {
            n += s.heap[i];
            s.heap[i] = 0;
        }
        s.thrown += n;
        return n;
    }

    int course(int length) {
        argument(in(length, 8, 24));
        state(s.slatable() && s.rows.size() < 100 && s.top() < s.height && length <= s.lastLength());
        state(s.rows.isEmpty() || s.rows.get(s.rows.size() - 1).first() < 0);
        save();
        s.rows.add(new Row(length, s.placesAt(s.rows.size())));
        return s.rows.size() - 1;
    }

    int lay(int many) {
        argument(in(many, 1, 60));
        state(s.slatable() && !s.rows.isEmpty());
        Row last = s.rows.get(s.rows.size() - 1);
        state(last.places.length - last.lying() >= many && s.stock[last.length] >= many && s.effort >= many);
        save();
        last = s.rows.get(s.rows.size() - 1);
        for (int i = 0; i < many; i++) {
            last.places[last.first()] = true;
        }
        s.stock[last.length] -= many;
        s.effort -= many;
        return last.lying();
    }

    int mend(int course, int place) {
        index(in(course, 0, s.rows.size() - 1) && in(place, 0, s.placesAt(course) - 1));
        Row row = s.rows.get(course);
        state(s.slatable() && !row.places[place] && s.stock[row.length] > 0 && s.effort >= 3);
        save();
        row.places[place] = true;
        s.stock[row.length]--;
        s.effort -= 3;
        return s.effort;
    }

    int cover(boolean on) {
        save();
        int was = s.cover ? 1 : 0;
        s.cover = on;
        return was;
    }

    int pass(int weather) {
        argument(in(weather, 0, 2));
        state(s.day != 1000);
        save();
        return s.day(weather);
    }

    int append(int code) {
        argument(in(code, 33, 126));
        state(buffer.length() < 60);
        buffer += (char) code;
        return buffer.length();
    }

    int clearBuffer() {
        int n = buffer.length();
        buffer = "";
        return n;
    }

    int firstError() {
        for (int i = 1; i <= buffer.length(); i++) {
            if (!PREFIX.matcher(buffer.substring(0, i)).matches()) {
                return i - 1;
            }
        }
        return buffer.length();
    }

    int work() {
        argument(WHOLE.matcher(buffer).matches());
        StringBuilder days = new StringBuilder();
        Matcher part = PART.matcher(buffer);
        while (part.find()) {
            days.append(part.group(1).repeat(part.group(2).isEmpty() ? 1 : Integer.parseInt(part.group(2))));
        }
        state(days.length() <= 200 && s.day + days.length() <= 1000);
        save();
        int placed = 0;
        for (char day : days.toString().toCharArray()) {
            s.day("drs".indexOf(day));
            placed += s.slate();
        }
        buffer = "";
        return placed;
    }

    int undo() {
        state(!saved.isEmpty());
        s = saved.removeLast();
        return saved.size();
    }

    int courseOf(int course, int what) {
        index(in(course, 0, s.rows.size() - 1));
        argument(in(what, 0, 6));
        Row row = s.rows.get(course);
        int top = s.rows.subList(0, course + 1).stream().mapToInt(r -> s.gauge(r.length)).sum();
        int[] all = {row.length, row.places.length, row.lying(), s.gauge(row.length), top, row.first(), row.last()};
        return all[what];
    }

    boolean lies(int course, int place) {
        index(in(course, 0, s.rows.size() - 1) && in(place, 0, s.placesAt(course) - 1));
        return s.rows.get(course).places[place];
    }

    int slates(int length, int what) {
        argument(in(length, 8, 24) && in(what, 0, 4));
        int roof = s.rows.stream().filter(r -> r.length == length).mapToInt(Row::lying).sum();
        int[] all = {s.stock[length], s.heap[length], roof, s.bought[length], length * length / 16};
        return all[what];
    }

    int cost() {
        int cost = 0;
        for (int length = 8; length <= 24; length++) {
            cost += s.bought[length] * (length * length / 16);
        }
        return cost;
    }

    int count(int what) {
        argument(in(what, 0, 18));
        int places = s.rows.stream().mapToInt(r -> r.places.length).sum();
        int[] all = {s.height, s.width, s.rows.size(), s.top(), s.lying(), places - s.lying(), s.done() ? 1 : 0,
            s.day, s.effort, s.damp, s.cover ? 1 : 0, Arrays.stream(s.bought).sum(), Arrays.stream(s.stock).sum(),
            Arrays.stream(s.heap).sum(), s.cut, s.thrown, s.elder, cost(), saved.size()};
        return all[what];
    }

    int setting(int setting) {
        index(in(setting, 0, 2));
        return s.settings[setting];
    }

    int toTop(int length, int what) {
        argument(in(length, 8, 24) && in(what, 0, 1));
        if (length > s.lastLength()) {
            return -1;
        }
        int courses = 0;
        int places = 0;
        for (int top = s.top(); top < s.height; top += s.gauge(length)) {
            places += s.placesAt(s.rows.size() + courses);
            courses++;
        }
        return what == 0 ? courses : places;
    }

    int reach(int what) {
        argument(in(what, 0, 3));
        int[] stock = s.stock.clone();
        int number = s.rows.size();
        int top = s.top();
        int longest = s.lastLength();
        int last = -1;
        while (top < s.height && number < 100) {
            int length = longest;
            while (length >= 8 && stock[length] < s.placesAt(number)) {
                length--;
            }
            if (length < 8) {
                break;
            }
            stock[length] -= s.placesAt(number);
            top += s.gauge(length);
            longest = length;
            last = length;
            number++;
        }
        int[] all = {number - s.rows.size(), top, Arrays.stream(stock).sum(), last};
        return all[what];
    }

    int dryDays() {
        State would = s.copy();
        would.cover = false;
        for (int days = 0; days <= 200; days++) {
            if (would.done()) {
                return days;
            }
            would.day(0);
            would.slate();
        }
        return -1;
    }

    int bestLength() {
        if (s.top() >= s.height) {
            return -1;
        }
        int best = -1;
        long least = Long.MAX_VALUE;
        for (int length = 8; length <= s.lastLength(); length++) {
            long price = (long) toTop(length, 1) * (length * length / 16);
            if (price <= least) {
                least = price;
                best = length;
            }
        }
        return best;
    }

    double meanPrice() {
        int used = s.lying() + s.elder;
        return used == 0 ? 0.0 : (double) cost() / used;
    }

    long digest() {
        List<Long> list = new ArrayList<>();
        for (int i = 0; i <= 18; i++) {
            list.add((long) count(i));
        }
        for (int i = 0; i < 3; i++) {
            list.add((long) s.settings[i]);
        }
        for (int length = 8; length <= 24; length++) {
            for (int what = 0; what < 4; what++) {
                list.add((long) slates(length, what));
            }
            list.add((long) toTop(length, 0));
            list.add((long) toTop(length, 1));
        }
        for (int c = 0; c < s.rows.size(); c++) {
            for (int what = 0; what <= 6; what++) {
                list.add((long) courseOf(c, what));
            }
            for (boolean lies : s.rows.get(c).places) {
                list.add(lies ? 1L : 0L);
            }
        }
        for (int what = 0; what < 4; what++) {
            list.add((long) reach(what));
        }
        list.add((long) dryDays());
        list.add((long) bestLength());
        list.add(Double.doubleToLongBits(meanPrice()));
        list.add((long) buffer.length());
        for (char c : buffer.toCharArray()) {
            list.add((long) c);
        }
        long hash = 2273;
        for (long v : list) {
            hash = 31 * hash + v;
        }
        return hash;
    }
}
