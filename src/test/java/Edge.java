import java.io.IOException;
import java.nio.file.Files;
import java.nio.file.Path;
import java.util.ArrayList;
import java.util.HashSet;
import java.util.List;
import java.util.Set;

/** A sentence of the document, and the calls just inside and just outside of its boundaries. */
final class Edge {
    interface Maker {
        SlateRoof make();
    }

    interface Call {
        long on(SlateRoof roof);
    }

    private static final String SENTENCE_ENDS = "(?<=[.)]) (?=[A-Z(])";
    private static final String[] WITHOUT_A_CALL = {"The public face", "Not promised", "SlateRoof", "What it is"};

    /** Heading and words of each sentence of the document. */
    private static final List<String[]> SENTENCES = new ArrayList<>();
    private static final Set<String[]> NAMED = new HashSet<>();
    private static String named = "";

    private Edge() {
    }

    static void readDocument() throws IOException {
        String heading = "";
        for (String line : Files.readAllLines(Path.of("../shared/DOC.md"))) {
            if (line.startsWith("#")) {
                heading = line.replaceFirst("^#+ ", "").replaceFirst(":.*", "");
            } else if (!line.isEmpty()) {
                for (String words : line.split(SENTENCE_ENDS)) {
                    SENTENCES.add(new String[] {heading, words});
                }
            }
        }
    }

    /** The sentence that the next calls hold: some of its words, under its heading in the document. */
    static void of(String heading, String words) {
        named = heading + ", \"" + words + "\": ";
        int before = NAMED.size();
        boolean found = false;
        for (String[] sentence : SENTENCES) {
            if (sentence[0].equals(heading) && sentence[1].contains(words)) {
                found = true;
                NAMED.add(sentence);
            }
        }
        Check.same(named + "stands in the document", found, true);
        Check.same(named + "names one sentence", NAMED.size() - before <= 1, true);
    }

    /** No sentence of the document that can be held by calls was left out. */
    static void allAreNamed() {
        for (String[] sentence : SENTENCES) {
            boolean due = !List.of(WITHOUT_A_CALL).contains(sentence[0])
                    && !sentence[1].startsWith("Ahead of the calls");
            Check.same(sentence[0] + ", \"" + sentence[1] + "\" has a test", !due || NAMED.contains(sentence), true);
        }
    }

    static void same(String what, long got, long due) {
        Check.same(named + what, got, due);
    }

    static void same(String what, boolean got, boolean due) {
        Check.same(named + what, got, due);
    }

    static void sameDouble(String what, double got, double due) {
        Check.sameDouble(named + what, got, due);
    }

    /** The call, on a roof of its own. */
    static void answers(String what, Maker maker, Call call, long due) {
        same(what, call.on(maker.make()), due);
    }

    /** What is asked after a change, on a roof of its own. */
    static void after(String what, Maker maker, Call change, Call ask, long due) {
        SlateRoof roof = maker.make();
        change.on(roof);
        same(what, ask.on(roof), due);
    }

    static void badArgument(String what, Maker maker, Call call) {
        refused(IllegalArgumentException.class, what, maker, call);
    }

    static void badState(String what, Maker maker, Call call) {
        refused(IllegalStateException.class, what, maker, call);
    }

    static void badIndex(String what, Maker maker, Call call) {
        refused(IndexOutOfBoundsException.class, what, maker, call);
    }

    /** On the roof as it is made, and on one with six saved states, of which a further one would drop the oldest. */
    private static void refused(Class<? extends RuntimeException> kind, String what, Maker maker, Call call) {
        refusedOnce(kind, what, maker, call);
        refusedOnce(kind, what + " with six saved states", () -> withSixSaved(maker), call);
    }

    /** The call throws exactly this exception, and the roof stays like a twin that was not asked. */
    static void refusedOnce(Class<? extends RuntimeException> kind, String what, Maker maker, Call call) {
        SlateRoof asked = maker.make();
        String got = "no exception";
        try {
            call.on(asked);
        } catch (RuntimeException e) {
            got = e.getClass().getName();
        }
        Check.same(named + what, got, kind.getName());
        alike(what + " changes nothing", asked, maker.make());
    }

    /** The call answers, and changes nothing, not even the saved states. */
    static void onlyLooks(String what, Maker maker, Call call) {
        SlateRoof asked = withSixSaved(maker);
        call.on(asked);
        alike(what + " changes nothing", asked, withSixSaved(maker));
        SlateRoof bare = maker.make();
        call.on(bare);
        alike(what + " changes nothing", bare, maker.make());
    }

    /** The call saves one state, with all that undo then brings back; of more than six, the oldest is dropped. */
    static void undoable(String what, Maker maker, Call call) {
        undoableOnce(what, maker, call);
        undoableOnce(what + " with six saved states", () -> withSixSaved(maker), call);
    }

    private static void undoableOnce(String what, Maker maker, Call call) {
        SlateRoof asked = maker.make();
        SlateRoof twin = maker.make();
        int due = Math.min(6, twin.count(18) + 1);
        call.on(asked);
        twin.cover(twin.count(10) == 1);
        same(what + " saves a state", asked.count(18), due);
        same(what + " can be undone", asked.undo(), due - 1);
        twin.undo();
        asked.clearBuffer();
        twin.clearBuffer();
        alike(what + " is undone", asked, twin);
    }

    private static SlateRoof withSixSaved(Maker maker) {
        SlateRoof roof = maker.make();
        int pace = roof.setting(1);
        for (int other = 31; other <= 35; other++) {
            roof.set(1, other);
        }
        roof.set(1, pace);
        return roof;
    }

    /** Two roofs are the same, and so are all that undo brings back on them. */
    private static void alike(String what, SlateRoof one, SlateRoof other) {
        same(what, one.digest(), other.digest());
        for (int back = 1; back <= 6 && one.count(18) > 0 && other.count(18) > 0; back++) {
            one.undo();
            other.undo();
            same(what + ", " + back + " undone", one.digest(), other.digest());
        }
    }
}
