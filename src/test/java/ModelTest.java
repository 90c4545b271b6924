import java.util.HashMap;
import java.util.Map;
import java.util.Random;
import java.util.function.IntSupplier;

/** Long mixed runs of calls, each answer and each digest compared with those of the Model. */
public final class ModelTest {
    private static final int CALLS = 512;
    private static final Map<String, Integer> SEEN = new HashMap<>();

    private final Random random;
    private final int kind;
    private final SlateRoof roof = new SlateRoof();
    private final Model model = new Model();
    private int calls = 0;

    private ModelTest(int seed) {
        random = new Random(seed);
        kind = seed % 5;
    }

    /** Mostly within the bounds, sometimes at them, now and then outside. */
    private int near(int low, int high) {
        int dice = random.nextInt(40);
        if (dice == 0) {
            return low - 1;
        }
        if (dice == 1) {
            return high + 1;
        }
        if (dice == 2) {
            return random.nextInt();
        }
        if (dice < 6) {
            return dice % 2 == 0 ? low : high;
        }
        return low + random.nextInt(high - low + 1);
    }

    private static String answer(IntSupplier call) {
        try {
            return Integer.toString(call.getAsInt());
        } catch (IllegalArgumentException | IllegalStateException | IndexOutOfBoundsException e) {
            return e.getClass().getSimpleName();
        }
    }

    private void compare(String call, IntSupplier own, IntSupplier due) {
        String got = answer(own);
        Check.same("call " + calls + " " + call, got, answer(due));
        calls++;
        SEEN.merge("courses, most", model.s.rows.size(), Math::max);
        SEEN.merge("roofs that are done", model.s.done() ? 1 : 0, Integer::sum);
        SEEN.merge("days, most", model.s.day, Math::max);
        SEEN.merge("slates bought, most", model.count(11), Math::max);
        SEEN.merge("dry days, most", model.dryDays(), Math::max);
        String name = call.substring(0, call.indexOf('('));
        boolean thrown = got.endsWith("Exception");
        SEEN.merge(name + (thrown ? " " + got : " answers"), 1, Integer::sum);
        if (calls < CALLS) {
            Check.same("digest after call " + calls + " " + call, roof.digest(), model.digest());
            calls++;
        }
    }

    private void change() {
        int a;
        int b;
        int c;
        switch (random.nextInt(14)) {
            case 0:
                if (random.nextInt(4) != 0) {
                    break;
                }
                a = kind == 1 ? near(20, 60) : kind == 2 ? near(390, 400) : near(20, 400);
                b = kind == 1 ? near(2, 4) : kind == 2 ? 2 : near(2, 30);
                compare("begin(" + a + ", " + b + ")", () -> roof.begin(a, b), () -> model.begin(a, b));
                break;
            case 1:
                a = near(0, 2);
                b = kind == 2 && a == 0 ? 6 : a == 0 ? near(2, 6) : a == 1 ? near(kind == 3 ? 1 : 15, 60) : near(1, 5);
                compare("set(" + a + ", " + b + ")", () -> roof.set(a, b), () -> model.set(a, b));
                break;
            case 2:
            case 3:
            case 4:
                a = kind == 2 ? near(8, 10) : near(8, 24);
                b = kind == 4 ? near(150, 200) : near(1, 200);
                c = random.nextInt();
                compare("buy(" + a + ", " + b + ", " + c + ")", () -> roof.buy(a, b, c), () -> model.buy(a, b, c));
                break;
            case 5:
                a = near(8, 24);
                b = random.nextInt(3) == 0 ? near(8, 20) : a - 4 - random.nextInt(4);
                c = near(1, 12);
                compare("recut(" + a + ", " + b + ", " + c + ")", () -> roof.recut(a, b, c),
                        () -> model.recut(a, b, c));
                break;
            case 6:
                a = near(8, 25);
                if (random.nextInt(3) == 0) {
                    compare("clearHeap(" + a + ")", () -> roof.clearHeap(a), () -> model.clearHeap(a));
                }
                break;
            case 7:
                boolean on = random.nextInt(3) == 0;
                compare("cover(" + on + ")", () -> roof.cover(on), () -> model.cover(on));
                break;
            case 8:
                a = random.nextInt(3) == 0 ? near(0, 2) : 0;
                compare("pass(" + a + ")", () -> roof.pass(a), () -> model.pass(a));
                break;
            case 9:
                compare("undo()", roof::undo, model::undo);
                break;
            default:
                layByHand();
                break;
        }
    }

    private void layByHand() {
        int count = model.s.rows.size();
        boolean full = count == 0 || model.s.rows.get(count - 1).first() < 0;
        if (random.nextInt(3) == 0 || full && random.nextInt(2) == 0) {
            int length = random.nextInt(6) == 0 ? near(8, 24) : longestInStock();
            compare("course(" + length + ")", () -> roof.course(length), () -> model.course(length));
        } else if (random.nextInt(2) == 0) {
            int gaps = full ? 7 : model.s.rows.get(count - 1).places.length - model.s.rows.get(count - 1).lying();
            int many = near(1, random.nextInt(6) == 0 ? 60 : gaps);
            compare("lay(" + many + ")", () -> roof.lay(many), () -> model.lay(many));
        } else {
            int number = Math.max(0, count - 1 - random.nextInt(2));
            number = random.nextInt(3) == 0 ? near(0, count) : number;
            int course = number;
            boolean there = number >= 0 && number < count && model.s.rows.get(number).first() >= 0;
            int place = there ? model.s.rows.get(number).first() : near(0, model.s.width);
            compare("mend(" + course + ", " + place + ")", () -> roof.mend(course, place),
                    () -> model.mend(course, place));
        }
    }

    private int longestInStock() {
        int length = model.s.lastLength();
        while (length > 8 && model.s.stock[length] < model.s.width) {
            length--;
        }
        return length;
    }

    private void ask() {
        int a = near(0, Math.max(0, model.s.rows.size() - 1));
        int b = near(0, 6);
        int place = near(0, model.s.width);
        int length = near(8, 24);
        int what = near(0, 4);
        switch (random.nextInt(6)) {
            case 0:
                compare("courseOf(" + a + ", " + b + ")", () -> roof.courseOf(a, b), () -> model.courseOf(a, b));
                break;
            case 1:
                compare("lies(" + a + ", " + place + ")", () -> roof.lies(a, place) ? 1 : 0,
                        () -> model.lies(a, place) ? 1 : 0);
                break;
            case 2:
                compare("slates(" + length + ", " + what + ")", () -> roof.slates(length, what),
                        () -> model.slates(length, what));
                break;
            case 3:
                int number = near(0, 18);
                compare("count(" + number + ")", () -> roof.count(number), () -> model.count(number));
                compare("setting(" + what + ")", () -> roof.setting(what), () -> model.setting(what));
                break;
            case 4:
                compare("toTop(" + length + ", " + what + ")", () -> roof.toTop(length, what),
                        () -> model.toTop(length, what));
                compare("reach(" + what + ")", () -> roof.reach(what), () -> model.reach(what));
                break;
            default:
                compare("dryDays()", roof::dryDays, model::dryDays);
                compare("bestLength()", roof::bestLength, model::bestLength);
                Check.sameDouble("meanPrice()", roof.meanPrice(), model.meanPrice());
                calls++;
                break;
        }
    }

    private void write() {
        int parts = 1 + random.nextInt(kind == 4 ? 4 : 3);
        StringBuilder days = new StringBuilder();
        for (int part = 0; part < parts; part++) {
            days.append("dddddrs".charAt(random.nextInt(7)));
            int dice = random.nextInt(6);
            if (dice < 3) {
                days.append(kind == 4 && dice == 0 ? 99 - random.nextInt(40) : 2 + random.nextInt(9));
            } else if (dice == 3 && random.nextInt(4) == 0) {
                days.append((char) near(33, 126));
            }
        }
        for (char sign : days.toString().toCharArray()) {
            compare("append(" + (int) sign + ")", () -> roof.append(sign), () -> model.append(sign));
        }
        compare("firstError()", roof::firstError, model::firstError);
        compare("work()", roof::work, model::work);
        if (model.buffer.length() > 0 && random.nextInt(8) != 0) {
            compare("clearBuffer()", roof::clearBuffer, model::clearBuffer);
        }
    }

    /** Days that leave much to be done by hand, since texts leave little. */
    private void slateByHand() {
        if (model.s.cover) {
            compare("cover(false)", () -> roof.cover(false), () -> model.cover(false));
        }
        int weather = random.nextInt(5) == 0 ? 2 : 0;
        compare("pass(" + weather + ")", () -> roof.pass(weather), () -> model.pass(weather));
        for (int day = 0; day < 5 && model.s.damp > 0; day++) {
            compare("pass(0)", () -> roof.pass(0), () -> model.pass(0));
        }
        if (model.s.top() >= model.s.height && random.nextInt(4) == 0) {
            int height = near(40, 400);
            compare("begin(" + height + ", 7)", () -> roof.begin(height, 7), () -> model.begin(height, 7));
        }
        for (int step = 0; step < 5; step++) {
            layByHand();
        }
    }

    private void run() {
        while (calls < CALLS - 40) {
            int dice = random.nextInt(10);
            if (kind < 2 && dice < 5) {
                slateByHand();
            } else if (dice < 6) {
                change();
            } else if (dice < 8) {
                ask();
            } else if (kind >= 2 || random.nextInt(8) == 0) {
                write();
            }
        }
    }

    /** Every sign after every short text, as the regular expressions see it. */
    private static void shortTexts() {
        String[] begins = {"", "d", "d1", "d2", "d9", "d10", "d99", "r1s", "s5d", "d0", "x"};
        for (String begin : begins) {
            for (int code = 33; code <= 126; code++) {
                SlateRoof roof = new SlateRoof();
                Model model = new Model();
                for (char sign : (begin + (char) code + "d").toCharArray()) {
                    roof.append(sign);
                    model.append(sign);
                }
                Check.same("first error of " + model.buffer, roof.firstError(), model.firstError());
                Check.same("work of " + model.buffer, answer(roof::work), answer(model::work));
            }
        }
    }

    public static void main(String[] args) {
        for (int seed = 0; seed < 400 && Check.wrongOnes() < 20; seed++) {
            int before = Check.wrongOnes();
            new ModelTest(seed).run();
            if (Check.wrongOnes() > before) {
                System.out.println("that was seed " + seed);
            }
        }
        shortTexts();
        if (args.length > 0) {
            SEEN.entrySet().stream().sorted(Map.Entry.comparingByKey()).forEach(System.out::println);
        }
        Check.end("ModelTest");
    }
}
