import java.lang.reflect.InvocationTargetException;
import java.lang.reflect.Method;

/**
 * One test of its own for each sentence of the document that names a boundary case: too small, too
 * large, empty, full, a wrap-around, a refused call. No object is asked more than 512 calls.
 *
 * A script is rows of calls, parted by "; ": name(arguments), behind which "= due" may stand; "day TEXT"
 * puts a text on the PAD, "do TEXT" does it too.
 */
public final class EdgesTest {
    private static final int NONE = -6, UNKNOWN = -1, OUTSIDE = -2, STATE = -3, FULL = -4, NO = -5;
    private static final long LOST = -1000000000000000000L;
    private static final int MOST_CALLS = 512;

    /** Something of everything, and a day on the PAD that can be. */
    private static final String WORLD = "person(0, 0, 36, 5); person(1, 3, 9, 2); person(3, 6, 2, 0); hedge(5, 2); "
        + "lay(2, 3); list(0, 0, 0, 12, 5, 3, 4); list(4, 1, 1, 7, 2, 0, 0); seen(2, 2, 2); do A>045A<103.; "
        + "image(0); hedge(4, 1); day A>052.";

    private static int wrong;
    private static int promise;
    private static int tests;

    // ---- the scripts

    /** An object and how many calls it was asked. */
    private static final class Asked {
        private final StoneRound x = new StoneRound();
        private int calls;

        long call(String name, int... arguments) {
            calls++;
            if (calls > MOST_CALLS) {
                throw new IllegalStateException("more than 512 calls: what is due is free");
            }
            Object[] boxed = new Object[arguments.length];
            for (int i = 0; i < boxed.length; i++) {
                boxed[i] = arguments[i];
            }
            try {
                return ((Number) methodOf(name).invoke(x, boxed)).longValue();
            } catch (InvocationTargetException e) {
                throw new IllegalStateException(name + " threw " + e.getCause());
            } catch (IllegalAccessException e) {
                throw new IllegalStateException(name + " is not to be called");
            }
        }

        long callRow(String row) {
            int open = row.indexOf('(');
            String inside = row.substring(open + 1, row.length() - 1).trim();
            String[] texts = inside.isEmpty() ? new String[0] : inside.split(",\\s*");
            int[] arguments = new int[texts.length];
            for (int i = 0; i < texts.length; i++) {
                arguments[i] = (int) number(texts[i]);
            }
            return call(row.substring(0, open), arguments);
        }

        void put(String day) {
            call("wipe");
            for (char sign : day.toCharArray()) {
                call("say", sign);
            }
        }

        /** A row without what is due: its answer. */
        long answer(String row) {
            if (row.startsWith("day ") || row.equals("day")) {
                put(row.substring(3).trim());
                return 0;
            }
            if (row.startsWith("do ")) {
                put(row.substring(3).trim());
                long events = call("done");
                if (events < 0) {
                    throw new IllegalStateException(row + " was not done");
                }
                return events;
            }
            return callRow(row);
        }
    }

    private static Method methodOf(String name) {
        for (Method m : StoneRound.class.getDeclaredMethods()) {
            if (m.getName().equals(name)) {
                return m;
            }
        }
        throw new IllegalStateException("there is no call " + name);
    }

    private static long number(String text) {
        if (text.length() == 3 && text.charAt(0) == '\'') {
            return text.charAt(1);
        }
        switch (text) {
            case "NONE": return NONE;
            case "UNKNOWN": return UNKNOWN;
            case "OUTSIDE": return OUTSIDE;
            case "STATE": return STATE;
            case "FULL": return FULL;
            case "NO": return NO;
            case "LOST+UNKNOWN": return LOST + UNKNOWN;
            case "LOST+OUTSIDE": return LOST + OUTSIDE;
            case "MIN": return Integer.MIN_VALUE;
            case "MAX": return Integer.MAX_VALUE;
            default: return Long.parseLong(text);
        }
    }

    private static void fail(String sentence, String what) {
        wrong++;
        System.out.println("promise " + promise + ", " + sentence + ": " + what);
    }

    private static void play(Asked asked, String sentence, String script) {
        for (String row : script.split("; ")) {
            int equals = row.lastIndexOf(" = ");
            long due = equals < 0 ? 0 : number(row.substring(equals + 3).trim());
            long got = asked.answer(equals < 0 ? row.trim() : row.substring(0, equals).trim());
            if (equals >= 0 && got != due) {
                fail(sentence, row + ", but the answer is " + got);
            }
        }
    }

    /** A test of a sentence: its script, on a new object. */
    private static void edge(String sentence, String... scripts) {
        tests++;
        try {
            play(new Asked(), sentence, String.join("; ", scripts));
        } catch (IllegalStateException e) {
            fail(sentence, e.getMessage());
        }
    }

    /** Calls that answer as told and change nothing of the world in which they are asked. */
    private static void still(String sentence, String due, String... calls) {
        stillIn(WORLD, sentence, due, calls);
    }

    private static void stillIn(String world, String sentence, String due, String... calls) {
        for (String call : calls) {
            tests++;
            try {
                Asked asked = new Asked();
                play(asked, sentence, world);
                play(asked, sentence, call + " = " + due);
                Asked twin = new Asked();
                play(twin, sentence, world);
                if (!tale(asked).equals(tale(twin))) {
                    fail(sentence, call + " changed something");
                }
            } catch (IllegalStateException e) {
                fail(sentence, e.getMessage());
            }
        }
    }

    /** All that can be asked of an object, at last also what changes it. */
    private static String tale(Asked asked) {
        StringBuilder text = new StringBuilder();
        tellWorld(asked, text);
        tellAnswers(asked, text);
        add(text, asked.call("done"));
        add(text, asked.call("say", '.'));
        add(text, asked.call("judge", 1));
        tellWorld(asked, text);
        add(text, asked.call("forget"));
        add(text, asked.call("restore", 0));
        tellWorld(asked, text);
        add(text, asked.call("restore", 1));
        add(text, asked.call("told", 11));
        return text.toString();
    }

    private static void add(StringBuilder text, long answer) {
        text.append(answer).append(' ');
    }

    private static void tellWorld(Asked asked, StringBuilder text) {
        for (int what : new int[] {0, 1, 2, 3, 4, 5, 10, 11, 12, 13, 14, 15, 16, 17, 18, 20, 21, 22, 23, 24}) {
            add(text, asked.call("told", what));
        }
        for (int place = 0; place < 9; place++) {
            add(text, asked.call("stones", place, 0));
            add(text, asked.call("stones", place, 1));
        }
        for (int person = 0; person < 5; person++) {
            for (int what = 0; what < 3; what++) {
                add(text, asked.call("state", person, what));
            }
        }
        for (int i = 0; i < 12; i++) {
            add(text, asked.call("air", i));
        }
    }

    private static void tellAnswers(Asked asked, StringBuilder text) {
        for (int place = 0; place < 9; place++) {
            add(text, asked.call("duck", place, 200, 0));
            add(text, asked.call("duck", place, 200, 1));
        }
        for (int person = 0; person < 5; person++) {
            add(text, asked.call("behind", person, 0));
        }
        add(text, asked.call("fault"));
        add(text, asked.call("judge", 0));
        add(text, asked.call("who", 1));
        add(text, asked.call("forbidden", 1));
        add(text, asked.call("hands", 1));
        add(text, asked.call("meet", 0, 4));
        add(text, asked.call("year", 7, 40, 0));
    }

    // ---- promises 1 to 9

    private static void newObject() {
        edge("eight PLACES", "told(1) = 8; hedge(7, 0) = 0; hedge(8, 0) = UNKNOWN; hedge(-1, 0) = UNKNOWN");
        edge("nobody is there", "told(2) = 0; state(0, 0) = UNKNOWN; state(1, 0) = UNKNOWN; state(2, 0) = UNKNOWN",
            "state(3, 0) = UNKNOWN; state(4, 0) = UNKNOWN; leave(0) = UNKNOWN; leave(4) = UNKNOWN; who(1) = 0");
        edge("HEDGES are 0 high at first", "told(10) = 0; told(11) = 0; told(12) = 0; told(13) = 0; told(14) = 0",
            "told(15) = 0; told(16) = 0; told(17) = 0; told(18) = OUTSIDE");
        edge("no STONE is anywhere at first", "stones(0, 0) = 0; stones(0, 1) = 0; stones(0, 2) = 0; stones(7, 0) = 0",
            "stones(7, 1) = 0; stones(7, 2) = 0; air(-1) = 0; air(0) = NONE; told(3) = 0; year(0, 1, 2) = 0");
        edge("no THROW is listed at first", "told(4) = 0; strike(0) = UNKNOWN; strike(5) = UNKNOWN");
        edge("no SIGHT at first", "told(5) = 0; forget() = 0");
        edge("the PAD is empty at first", "told(0) = 0; fault() = NONE; done() = 0; wipe() = 0");
        edge("no IMAGE was kept at first", "restore(0) = STATE; restore(1) = STATE");
        tests++;
        Asked other = new Asked();
        play(other, "objects are apart", WORLD);
        String before = tale(new Asked());
        tale(other);
        if (!tale(new Asked()).equals(before)) {
            fail("objects are apart", "a new object is not as a new object");
        }
    }

    private static void places() {
        still("n 4 to 9, too small", "OUTSIDE", "places(3)", "places(0)", "places(-1)", "places(-8)", "places(MIN)");
        still("n 4 to 9, too large", "OUTSIDE", "places(10)", "places(264)", "places(MAX)");
        edge("n 4, the least", "places(4) = 8; told(1) = 4; hedge(3, 1) = 0; hedge(4, 1) = UNKNOWN");
        edge("n 9, the most", "places(9) = 8; told(1) = 9; hedge(8, 1) = 0; hedge(9, 1) = UNKNOWN");
        edge("which it was", "places(5) = 8; places(5) = 5; places(9) = 5; places(10) = OUTSIDE; places(4) = 9");
        edge("HEDGES go", "hedge(0, 5); hedge(7, 3); places(8) = 8; told(10) = 0; told(17) = 0");
        edge("HEDGES go beyond the ring, too", "places(9); hedge(8, 5); places(4); places(9); told(18) = 0");
        edge("PEOPLE go", "person(0, 0, 1, 1); person(4, 7, 1, 1); places(8) = 8; told(2) = 0",
            "state(0, 0) = UNKNOWN; state(4, 0) = UNKNOWN; told(20) = OUTSIDE; person(2, 0, 1, 0) = 1");
        edge("PEOPLE go with what they have CAUGHT", "person(0, 0, 9, 1); person(1, 1, 9, 0); do A>031.",
            "state(1, 2) = 1; places(8); person(1, 1, 9, 0) = 1; state(1, 2) = 0");
        edge("STONES that lie go", "lay(0, 9); lay(7, 1); places(8) = 8; stones(0, 0) = 0; stones(7, 0) = 0; laid() = 0",
            "person(0, 0, 1, 0); laid() = NONE");
        edge("STONES that lie go beyond the ring, too", "places(9); lay(8, 5); places(4); places(9); stones(8, 0) = 0");
        edge("STONES that are lost go", "person(0, 0, 9, 1); hedge(1, 5); do A>022.; stones(1, 1) = 1; places(8) = 8",
            "stones(1, 1) = 0; year(0, 1, 2) = 0");
        edge("STONES in the air go, too", "person(0, 0, 9, 2); do A>095A<095.; air(-1) = 2; places(8) = 8; air(-1) = 0",
            "air(0) = NONE; told(3) = 0; stones(1, 2) = 0; do ........; told(3) = 0; stones(1, 0) = 0");
        edge("THROWS go", "person(0, 0, 9, 0); list(0, 0, 0, 4, 1, 0, 1); list(5, 0, 0, 4, 1, 0, 1); places(8) = 8",
            "told(4) = 0; strike(0) = UNKNOWN; strike(5) = UNKNOWN; duck(1, 999, 0) = 0");
        edge("SIGHTS go", "seen(1, 1, 1); seen(1, 1, 1); seen(1, 1, 1); seen(1, 1, 1); seen(1, 1, 1); seen(1, 1, 1) = 6",
            "places(8) = 8; told(5) = 0; person(0, 4, 1, 0); who(1) = 10; seen(1, 1, 1) = 1; forget() = 1");
        edge("the PAD and IMAGES do not go", "image(1); day A+; places(4) = 8; told(0) = 2; restore(1) = 1; told(1) = 8");
        for (int n = 4; n <= 9; n++) {
            edge("a ring of " + n, "places(" + n + "); person(0, 0, 1, 0); person(1, " + (n - 1) + ", 1, 0)",
                "flight(1, 0, 1, 1, 2) = 0; flight(0, 1, 1, 1, 2) = " + (n - 1), "do AkBo; state(0, 0) = " + (n - 1),
                "state(1, 0) = 0");
        }
    }

    private static void hedge() {
        still("UNKNOWN: there is no such PLACE", "UNKNOWN", "hedge(-1, 0)", "hedge(8, 0)", "hedge(9, 1)",
            "hedge(MIN, 0)", "hedge(MAX, 5)");
        still("OUTSIDE: 0 to 5 high", "OUTSIDE", "hedge(0, -1)", "hedge(0, 6)", "hedge(7, 7)", "hedge(5, MIN)",
            "hedge(5, MAX)");
        still("UNKNOWN fits ahead of OUTSIDE", "UNKNOWN", "hedge(8, 6)", "hedge(-1, -1)");
        edge("the last PLACE of 4", "places(4); hedge(3, 2) = 0; hedge(4, 2) = UNKNOWN; told(13) = 2");
        edge("0 and 5, the least and the most", "hedge(0, 5) = 0; told(10) = 5; hedge(0, 0) = 5; told(10) = 0",
            "hedge(7, 5) = 0; hedge(7, 1) = 5; told(17) = 1");
        edge("which it was, when it stays", "hedge(3, 2) = 0; hedge(3, 2) = 2; hedge(3, 6) = OUTSIDE; hedge(3, 0) = 2");
        edge("a HEDGE as high as the STONE lets it pass", "person(0, 0, 36, 9); hedge(3, 3); flight(0, 0, 9, 5, 0) = 2",
            "flight(0, 0, 9, 5, 1) = 8; do A>095...; stones(3, 1) = 0; air(0) = 330");
        edge("a higher HEDGE keeps it", "person(0, 0, 36, 9); hedge(3, 4); flight(0, 0, 9, 5, 0) = 1",
            "flight(0, 0, 9, 5, 1) = 3; flight(0, 0, 9, 5, 2) = 3; do A>095...; stones(3, 1) = 1; air(-1) = 0");
        edge("0 high behind the last minute, a HEDGE of 1", "person(0, 0, 36, 9); flight(0, 0, 1, 5, 0) = 0; hedge(1, 1)",
            "flight(0, 0, 1, 5, 0) = 1; do A>015.; stones(1, 0) = 0; stones(1, 1) = 1");
        edge("a HEDGE is ahead of a hand", "person(0, 0, 36, 9); person(1, 2, 1, 0); hedge(2, 3)",
            "flight(0, 0, 9, 5, 0) = 1; flight(0, 0, 9, 5, 3) = NONE; do A>095..; state(1, 2) = 0; stones(2, 1) = 1",
            "hedge(2, 2); flight(0, 0, 9, 5, 0) = 2; flight(0, 0, 9, 5, 3) = 1; do A>095..; state(1, 2) = 1");
        edge("a HEDGE is ahead of falling together", "person(0, 0, 36, 9); hedge(1, 2); do A>095A>094.",
            "stones(1, 0) = 0; stones(1, 1) = 2");
        edge("for good: lower HEDGES give nothing back", "person(0, 0, 36, 9); hedge(1, 1); do A>011.; hedge(1, 0) = 1",
            "stones(1, 1) = 1; stones(1, 0) = 0; day AoA+; judge(0) = 1; judge(1) = 5; year(0, 1, 2) = 1");
        edge("a HEDGE does not keep what is thrown from in it", "person(0, 0, 36, 9); hedge(0, 5); do A>095.; air(0) = 110",
            "stones(0, 1) = 0; do .......; stones(0, 1) = 1");
    }

    private static void lay() {
        still("UNKNOWN: there is no such PLACE", "UNKNOWN", "lay(-1, 0)", "lay(8, 0)", "lay(MIN, 1)", "lay(MAX, 1)");
        still("OUTSIDE: 0 to 9", "OUTSIDE", "lay(2, -1)", "lay(2, 10)", "lay(0, MIN)", "lay(0, MAX)");
        still("UNKNOWN fits ahead of OUTSIDE", "UNKNOWN", "lay(8, 10)", "lay(-1, -1)");
        edge("0 and 9, the least and the most", "lay(0, 9) = 0; stones(0, 0) = 9; lay(0, 0) = 9; stones(0, 0) = 0");
        edge("the last PLACE", "lay(7, 1) = 0; stones(7, 0) = 1; places(9); lay(8, 2) = 0; stones(8, 0) = 2");
        edge("how many did, when they stay", "lay(3, 4) = 0; lay(3, 4) = 4; stones(3, 0) = 4");
        edge("how many did, also above 9", "person(0, 0, 9, 2); lay(1, 9) = 0; do A>011.A>011.; stones(1, 0) = 11",
            "lay(1, 10) = OUTSIDE; lay(1, 9) = 11; stones(1, 0) = 9");
        edge("what is lost, or in the air there, does not lie", "person(0, 0, 9, 2); hedge(1, 1); do A>011.A>095.",
            "stones(1, 1) = 1; stones(1, 2) = 1; lay(1, 4) = 0; stones(1, 1) = 1; stones(1, 2) = 1");
    }

    private static void person() {
        still("UNKNOWN: there is no such PERSON", "UNKNOWN", "person(-1, 0, 1, 0)", "person(5, 0, 1, 0)",
            "person(32, 0, 1, 0)", "person(MIN, 0, 1, 0)", "person(MAX, 0, 1, 0)");
        still("UNKNOWN: there is no such PLACE", "UNKNOWN", "person(2, -1, 1, 0)", "person(2, 8, 1, 0)",
            "person(0, 8, 1, 0)", "person(2, MIN, 1, 0)", "person(2, MAX, 1, 0)");
        still("OUTSIDE: ARM 1 to 36", "OUTSIDE", "person(2, 0, 0, 0)", "person(2, 0, 37, 0)", "person(0, 0, -1, 0)",
            "person(0, 0, MIN, 0)", "person(0, 0, MAX, 0)");
        still("OUTSIDE: STONES 0 to 9", "OUTSIDE", "person(2, 0, 1, -1)", "person(2, 0, 1, 10)", "person(0, 0, 1, 10)",
            "person(2, 0, 1, MIN)", "person(2, 0, 1, MAX)");
        still("UNKNOWN: both fit ahead of OUTSIDE", "UNKNOWN", "person(5, 0, 0, 0)", "person(5, 8, 37, 10)",
            "person(2, 8, 37, 0)", "person(2, -1, 1, 10)");
        edge("the least of all", "person(0, 0, 1, 0) = 1; told(20) = 1; state(0, 0) = 0; state(0, 1) = 0; told(2) = 1");
        edge("the most of all", "person(4, 7, 36, 9) = 1; told(24) = 36; state(4, 0) = 7; state(4, 1) = 9; told(2) = 16");
        edge("how many are, to five", "person(3, 0, 1, 0) = 1; person(1, 0, 1, 0) = 2; person(4, 0, 1, 0) = 3",
            "person(0, 0, 1, 0) = 4; person(2, 0, 1, 0) = 5; told(2) = 31; person(2, 1, 1, 0) = 5");
        edge("or anew", "person(1, 3, 9, 2) = 1; person(1, 6, 36, 0) = 1; state(1, 0) = 6; state(1, 1) = 0",
            "told(21) = 36; told(2) = 2; stones(3, 0) = 0");
        edge("anew, it has CAUGHT nothing", "person(0, 0, 9, 1); person(1, 1, 9, 0); do A>031.; state(1, 2) = 1",
            "person(1, 1, 9, 0) = 2; state(1, 2) = 0");
        edge("the last PLACE of 4", "places(4); person(0, 4, 1, 0) = UNKNOWN; person(0, 3, 1, 0) = 1");
        edge("two at one PLACE", "person(0, 2, 1, 0) = 1; person(1, 2, 1, 0) = 2; state(0, 0) = 2; state(1, 0) = 2");
    }

    private static void leave() {
        still("UNKNOWN: it was not there", "UNKNOWN", "leave(2)", "leave(4)");
        still("UNKNOWN: there is no such PERSON", "UNKNOWN", "leave(-1)", "leave(5)", "leave(32)", "leave(MIN)",
            "leave(MAX)");
        edge("how many are there, to none", "person(0, 0, 1, 0); person(4, 0, 1, 0); leave(0) = 1; told(2) = 16",
            "leave(4) = 0; told(2) = 0");
        edge("it leaves but once", "person(0, 0, 1, 0); person(1, 0, 1, 0); leave(0) = 1; leave(0) = UNKNOWN",
            "state(0, 0) = UNKNOWN; told(20) = OUTSIDE");
        edge("its STONES, too", "person(0, 3, 9, 9); leave(0) = 0; stones(3, 0) = 0; person(0, 3, 9, 0) = 1",
            "state(0, 1) = 0");
        edge("who left catches nothing", "person(0, 0, 36, 1); person(1, 2, 1, 0); flight(0, 0, 9, 5, 3) = 1; leave(1) = 1",
            "flight(0, 0, 9, 5, 3) = 0");
        edge("what it threw stays in the air", "person(0, 0, 9, 1); do A>095.; leave(0) = 0; air(-1) = 1; air(0) = 110");
        edge("its THROW stays listed", "person(0, 0, 9, 1); list(2, 0, 0, 4, 1, 0, 0) = 1; leave(0) = 0; told(4) = 4",
            "duck(1, 9, 1) = 1");
    }

    private static void say() {
        still("codes 33 to 126, too small", "OUTSIDE", "say(32)", "say(0)", "say(-1)", "say(MIN)");
        still("codes 33 to 126, too large", "OUTSIDE", "say(127)", "say(302)", "say(65582)", "say(MAX)");
        edge("33 and 126, the least and the most", "say(33) = 1; say(126) = 2; told(0) = 2; fault() = 0");
        String full = "day " + ".".repeat(60);
        edge("60 SIGNS at most", "day " + ".".repeat(59), "told(0) = 59; say('.') = 60; say('.') = FULL; told(0) = 60",
            "fault() = NONE; done() = 60; say('.') = 1");
        stillIn(WORLD + "; " + full, "FULL", "FULL", "say('.')", "say(33)", "say(126)");
        stillIn(WORLD + "; " + full, "OUTSIDE fits ahead of FULL", "OUTSIDE", "say(32)", "say(127)");
        edge("not FULL behind wipe()", full, "say('.') = FULL; wipe() = 60; say('.') = 1");
    }

    private static void wipe() {
        edge("none there were", "wipe() = 0; told(0) = 0; fault() = NONE");
        edge("one there was", "say('A') = 1; wipe() = 1; told(0) = 0; fault() = NONE; wipe() = 0");
        edge("as many as the PAD holds", "day " + "A".repeat(60), "wipe() = 60; told(0) = 0; done() = 0");
        edge("signs go, a new text begins", "day x; wipe() = 1; say('.') = 1; fault() = NONE; done() = 1");
        edge("nothing else goes", WORLD, "wipe() = 6; told(1) = 8; told(2) = 11; told(3) = 2; told(4) = 17; told(5) = 1",
            "told(14) = 1; told(15) = 2; stones(2, 0) = 3; restore(0) = 1");
    }

    /** Each text on the PAD with its fault. */
    private static void faults(String sentence, String... textsAndFaults) {
        for (int i = 0; i < textsAndFaults.length; i += 2) {
            edge(sentence, "day " + textsAndFaults[i], "fault() = " + textsAndFaults[i + 1]);
        }
    }

    private static void fault() {
        faults("NONE, if it is empty", "", "NONE");
        faults("each EVENT, whoever is there", ".", "NONE", "A+", "NONE", "Ao", "NONE", "Ak", "NONE", "A>011", "NONE",
            "E<365", "NONE", "E+EoEk.", "NONE", "A>011B<022C>103D<204E>305", "NONE");
        faults("the number of signs, if more must come", "A", "1", "A>", "2", "A<", "2", "A>0", "3", "A>3", "3",
            "A>01", "4", "A<36", "4", ".A", "2", "AoB", "3", "A>011E", "6", ".".repeat(59) + "A", "60");
        faults("a full PAD", ".".repeat(60), "NONE", "A>011".repeat(12), "NONE", "A+".repeat(30), "NONE",
            ".".repeat(59) + "F", "59");
        faults("A to E", "@", "0", "F", "0", "a", "0", "e", "0", "@+", "0", "Fo", "0", "B+C+D+", "NONE");
        faults("an EVENT begins with nothing else", "!", "0", "~", "0", ">", "0", "+", "0", "o", "0", "k", "0", "0", "0",
            "-", "0", "/", "0");
        faults("behind a PERSON", "A.", "1", "AA", "1", "A0", "1", "A=", "1", "A;", "1", "A?", "1", "A*", "1", "A,", "1",
            "AO", "1", "AK", "1", "An", "1", "Ap", "1", "Aj", "1", "Al", "1");
        faults("REACH from 01 on", "A>00", "3", "A<00", "3", "A>01", "4", "A>0/", "3", "A>0:", "3", "A>0.", "3");
        faults("REACH to 36", "A>36", "4", "A<36", "4", "A>37", "3", "A<37", "3", "A>39", "3", "A>3:", "3", "A>3/", "3",
            "A>4", "2", "A<9", "2", "A>400", "2");
        faults("REACH between them", "A>09", "4", "A>10", "4", "A>19", "4", "A>1:", "3", "A>1/", "3", "A>20", "4",
            "A>29", "4", "A>30", "4");
        faults("REACH is two digits", "A>/", "2", "A>:", "2", "A>.", "2", "A>A", "2", "A>1.", "3", "A>>", "2", "A>-1", "2");
        faults("TOP 1 to 5", "A>010", "4", "A>011", "NONE", "A>015", "NONE", "A>016", "4", "A>01/", "4", "A>01.", "4",
            "E<369", "4", "A>01A", "4");
        faults("the first sign that can not stand", "xx", "0", "..x.x", "2", "AoAxA", "3", "A>011x", "5", "A>3700", "3",
            "xA", "0", ".AAo", "2", "A.A", "1");
    }

    // ---- promises 10 to 16

    /** Twelve in the air, thrown from 4 by B and C; E is not there. */
    private static final String TWELVE = "person(0, 0, 5, 1); person(1, 4, 36, 9); person(2, 4, 36, 5); "
        + "person(3, 0, 5, 0); do " + "B>095".repeat(9) + "C>095".repeat(3);

    /** A text on the PAD of that world: which EVENT can not be, and why. */
    private static void judged(String world, String sentence, String day, String event, String why) {
        edge(sentence, world, "day " + day, "judge(0) = " + event, "judge(1) = " + why);
    }

    private static void judge() {
        still("OUTSIDE", "OUTSIDE", "judge(-1)", "judge(2)", "judge(MIN)", "judge(MAX)");
        stillIn(WORLD + "; day A>", "NO: there is a FAULT", "NO", "judge(0)", "judge(1)");
        stillIn(WORLD + "; day x", "OUTSIDE fits ahead of NO", "OUTSIDE", "judge(-1)", "judge(2)");
        still("NONE, and nothing is DONE", "NONE", "judge(0)", "judge(1)");
        stillIn(WORLD + "; day AoA>052.E+", "what can be is not DONE either", "3", "judge(0)");
        stillIn(WORLD + "; day AoA>052.E+", "what can be is not DONE either", "1", "judge(1)");
        judged("told(0)", "NONE, if the DAY is empty", "", "NONE", "NONE");
        judged("person(0, 0, 5, 1)", "NONE, if all can be", "A>055.AoAk.", "NONE", "NONE");
        judged("told(0)", "a minute can always be", ".".repeat(60), "NONE", "NONE");
        String alone = "person(0, 0, 36, 9)";
        for (String day : new String[] {"Eo", "Ek", "E+", "E>011", "E<011"}) {
            judged(alone, "1 the PERSON is not there", day, "0", "1");
            judged(alone, "the first EVENT is 0", "." + day, "1", "1");
        }
        judged(alone + "; leave(0)", "1 it left", "Ao", "0", "1");
        judged("person(0, 0, 36, 0)", "2 it has no STONE in hand", "A>011", "0", "2");
        judged("person(0, 0, 36, 1)", "2 it has no STONE any more", "A>011A<011", "1", "2");
        judged("person(0, 0, 36, 0); lay(0, 1)", "2 it has one that it picked up", "A+A>011", "NONE", "NONE");
        judged("person(0, 0, 36, 1); person(1, 1, 36, 0)", "2 it has one that it caught", "A>031.B>011", "NONE", "NONE");
        judged("person(0, 0, 5, 9)", "3 REACH is just its ARM", "A>051A<051", "NONE", "NONE");
        judged("person(0, 0, 5, 9)", "3 REACH is above its ARM", "A>061", "0", "3");
        judged("person(0, 0, 5, 9)", "3 REACH is above its ARM", "A<061", "0", "3");
        judged("person(0, 0, 1, 9)", "3 the least ARM", "A>015A>025", "1", "3");
        judged(alone, "3 the longest ARM", "A>365A<361", "NONE", "NONE");
        judged("person(0, 0, 35, 9)", "3 an ARM of 35", "A>351A>361", "1", "3");
        judged(TWELVE, "4 twelve STONES are in the air", "C>095", "0", "4");
        judged(TWELVE, "4 not behind a minute in which they fell", ".C>095", "NONE", "NONE");
        judged(TWELVE, "4 who walks may do so", "CoAk.", "NONE", "NONE");
        judged("person(1, 4, 36, 9); person(2, 4, 36, 5); do " + "B>095".repeat(9) + "C>095C>095",
            "4 the twelfth may be thrown, no thirteenth", "C>095C>095", "1", "4");
        judged("person(0, 0, 5, 0)", "5 nothing lies there", "A+", "0", "5");
        judged("person(0, 0, 5, 0); lay(0, 1)", "5 the last that lies", "A+A+", "1", "5");
        judged("person(0, 0, 5, 0); lay(1, 1)", "5 it lies at the next PLACE", "A+", "0", "5");
        judged("person(0, 0, 5, 0); lay(7, 1)", "5 it lies where one walks to", "AkA+", "NONE", "NONE");
        judged("person(0, 0, 5, 1); hedge(1, 1)", "5 what is lost does not lie", "A>011.AoA+", "3", "5");
        judged("person(0, 0, 5, 1)", "5 what is in the air does not lie", "A>051A+", "1", "5");
        judged(TWELVE, "the least reason: 1 ahead of all", "E>361", "0", "1");
        judged(TWELVE, "the least reason: 1 ahead of 5", "E+", "0", "1");
        judged(TWELVE, "the least reason: 2 ahead of 3 and 4", "D>061", "0", "2");
        judged(TWELVE, "the least reason: 2 ahead of 4", "B>361", "0", "2");
        judged(TWELVE, "the least reason: 3 ahead of 4", "A>061", "0", "3");
        judged(TWELVE, "the least reason: 4", "A>051", "0", "4");
        judged(alone, "the first EVENT of two that can not be", "AoA+E+", "1", "5");
        judged(alone, "the first EVENT of two that can not be", "E+A+", "0", "1");
        judged(alone, "the last EVENT of the most", ".".repeat(58) + "A+", "58", "5");
    }

    private static void done() {
        stillIn(WORLD + "; day A>", "NO: there is a FAULT, more must come", "NO", "done()");
        stillIn(WORLD + "; day Aox", "NO: there is a FAULT behind what can be", "NO", "done()");
        stillIn(WORLD + "; day AoA>045.E+", "NO: the last EVENT can not be, no EVENT is DONE", "NO", "done()");
        stillIn(WORLD + "; day E+Ao.", "NO: the first EVENT can not be", "NO", "done()");
        edge("an empty DAY", "done() = 0; told(0) = 0");
        edge("EVENTS, one", "do . = 1; do . = 1");
        edge("EVENTS, the most", "do " + ".".repeat(60) + " = 60", "told(0) = 0");
        edge("EVENTS, the longest", TWELVE + " = 12", "air(-1) = 12");
        edge("the PAD is empty then", "person(0, 0, 1, 0); do AoAo = 2; told(0) = 0; wipe() = 0; done() = 0; state(0, 0) = 2");
        edge("with NO the PAD is kept", "day E+; done() = NO; told(0) = 2; person(4, 0, 1, 0); lay(0, 1); done() = 1",
            "state(4, 1) = 1");
    }

    private static void minutes() {
        edge("it picks up the last that lies", "person(0, 0, 9, 0); lay(0, 1); do A+ = 1; stones(0, 0) = 0; state(0, 1) = 1");
        edge("it picks up, however many it has", "person(0, 0, 9, 9); lay(0, 1); do A+; state(0, 1) = 10; state(0, 2) = 0");
        edge("it catches, however many it has", "person(0, 0, 9, 1); person(1, 1, 9, 9); do A>031.; state(1, 1) = 10",
            "state(0, 1) = 0");
        edge("in hand, not as it is thrown", "person(0, 0, 9, 1); do A>095; state(0, 1) = 0; state(0, 2) = 0; air(0) = 0");
        edge("REACH 1: it lies at the next PLACE", "person(0, 0, 9, 2); do A>015.A<015.; stones(1, 0) = 1; stones(7, 0) = 1",
            "air(-1) = 0");
        edge("REACH 36, the most", "person(0, 0, 36, 1); do A>361; leave(0); do " + ".".repeat(35), "air(0) = 310",
            "stones(4, 0) = 0; do .; air(-1) = 0; stones(4, 0) = 1");
        edge("TOP 5, whatever is least", "person(0, 0, 36, 1); do A>365; leave(0); do ....; air(0) = 440; do .; air(0) = 550",
            "do .; air(0) = 650; do " + ".".repeat(25), "air(0) = 750; do .; air(0) = 40; do ...; air(0) = 310");
        edge("1 high is caught", "person(0, 0, 9, 1); person(1, 3, 9, 0); do A>045...; state(1, 2) = 1; air(-1) = 0");
        edge("2 high is caught", "person(0, 0, 9, 1); person(1, 3, 9, 0); do A>055...; state(1, 2) = 1; air(-1) = 0");
        edge("3 high is not caught", "person(0, 0, 9, 1); person(1, 3, 9, 0); do A>065...; state(1, 2) = 0; air(0) = 330");
        edge("0 high is not caught", "person(0, 0, 9, 1); person(1, 3, 9, 0); do A>035...; state(1, 2) = 0; air(-1) = 0",
            "stones(3, 0) = 1");
        edge("the least PERSON there", "person(0, 0, 9, 2); person(3, 2, 9, 0); person(1, 2, 9, 0); do A>051..; state(1, 2) = 1",
            "state(3, 2) = 0; leave(1); do A>051..; state(3, 2) = 1");
        edge("also who threw it, had back from behind", "person(0, 0, 36, 1); do A>105........; state(0, 1) = 1",
            "state(0, 2) = 1; do A<105........; state(0, 2) = 2; air(-1) = 0");
        edge("also who walks after it", "person(0, 7, 36, 1); do A>095Ao; state(0, 2) = 0; air(0) = 700; do .",
            "state(0, 2) = 1; air(-1) = 0");
        edge("who walks to it", "person(0, 0, 9, 1); person(1, 2, 9, 0); do A>031Bk.; state(1, 2) = 1");
        edge("those as high as each other fall, two", "person(0, 0, 9, 9); person(1, 2, 9, 9); do A>095B<095.",
            "air(-1) = 0; stones(1, 0) = 2");
        edge("all of them fall, three", "person(0, 0, 9, 9); person(1, 2, 9, 9); do A>095A>094B<095.; air(-1) = 0",
            "stones(1, 0) = 3");
        edge("at each PLACE", "person(0, 0, 9, 9); do A>095A<095A>094A<094.; air(-1) = 0; stones(1, 0) = 2; stones(7, 0) = 2");
        edge("not as high: they go on", "person(0, 0, 9, 9); person(1, 4, 9, 9); do A>095..B<095.; air(0) = 330; air(1) = 311",
            "stones(3, 0) = 0");
        edge("as high, not at one PLACE: they go on", "person(0, 0, 9, 9); do A>095A<095.; air(-1) = 2");
        edge("1 at least: as they are thrown they do not fall", "person(0, 0, 9, 9); do A>095A>095; air(-1) = 2",
            "stones(0, 0) = 0");
        edge("what lies takes nothing along", "person(0, 0, 9, 9); do A>011A>095.; air(-1) = 1; air(0) = 110; stones(1, 0) = 1");
        edge("some fall, others go on, in their order", "person(0, 0, 36, 9); person(1, 2, 36, 9)",
            "do A<095A>095B<095B>094.; air(-1) = 2; air(0) = 711; air(1) = 310; stones(1, 0) = 2");
        edge("one lies, the next goes on as it was thrown", "person(0, 0, 36, 9); do A>021.A<085.; stones(2, 0) = 1",
            "air(-1) = 1; air(0) = 711; do .; air(0) = 621; do .; air(0) = 531; do .; air(0) = 441; do .; air(0) = 331");
        edge("one goes on, the next lies", "person(0, 0, 36, 9); do A<095A>011.; air(-1) = 1; air(0) = 711",
            "stones(1, 0) = 1; do A>011A>011.; air(-1) = 1; stones(1, 0) = 3");
        edge("one is lost, the next goes on", "person(0, 0, 36, 9); hedge(1, 5); do A>095A<095.; air(-1) = 1; air(0) = 711",
            "stones(1, 1) = 1");
        edge("one is caught, the next goes on", "person(0, 0, 36, 9); person(1, 1, 1, 0); do A>095A<095.; air(-1) = 1",
            "air(0) = 711; state(1, 2) = 1");
        edge("at the last PLACE of nine", "places(9); person(0, 7, 9, 9); person(4, 8, 9, 0); lay(8, 1); do E+; state(4, 1) = 1",
            "stones(8, 0) = 0; do A>031.; state(4, 2) = 1; do Ek.; state(4, 0) = 7; state(4, 2) = 1; do A>011.",
            "stones(8, 0) = 1; hedge(8, 1); do A>011.; stones(8, 1) = 1; do A>011.; stones(8, 1) = 2; behind(4, 2) = 1",
            "behind(4, 0) = 7");
        edge("hands are ahead of falling", "person(0, 0, 9, 2); person(1, 1, 9, 0); do A>095A>094.; state(1, 2) = 2",
            "stones(1, 0) = 0");
        edge("they fall 5 high, too, not at the PLACE where one was 4, one 2 high", "person(0, 0, 36, 1)",
            "person(1, 6, 36, 1); do A>365..B<365..; air(-1) = 2; do ...; air(-1) = 2; do .; air(-1) = 0; stones(0, 0) = 2");
    }

    private static void state() {
        still("UNKNOWN: there is no such PERSON", "UNKNOWN", "state(2, 0)", "state(4, 2)", "state(-1, 0)", "state(5, 0)",
            "state(32, 0)", "state(MIN, 0)", "state(MAX, 0)");
        still("OUTSIDE", "OUTSIDE", "state(0, -1)", "state(0, 3)", "state(0, MIN)", "state(0, MAX)");
        still("UNKNOWN fits ahead of OUTSIDE", "UNKNOWN", "state(2, 3)", "state(5, -1)");
        edge("the last PERSON, the last PLACE", "person(4, 7, 1, 9); state(4, 0) = 7; state(4, 1) = 9; state(4, 2) = 0");
        edge("CAUGHT ever: by all DAYS", "person(0, 0, 9, 2); person(1, 1, 9, 0); do A>031.; state(1, 2) = 1; do A>031.",
            "state(1, 2) = 2; state(1, 1) = 2");
        edge("CAUGHT ever: also when it is thrown again", "person(0, 0, 9, 1); person(1, 1, 9, 0); do A>031.B>031.",
            "state(1, 1) = 0; state(1, 2) = 1");
        edge("what is picked up is not CAUGHT", "person(0, 0, 9, 0); lay(0, 2); do A+A+; state(0, 1) = 2; state(0, 2) = 0");
        edge("who is there is told, though nobody else is", "person(2, 5, 3, 4); state(2, 0) = 5; state(1, 0) = UNKNOWN",
            "state(3, 0) = UNKNOWN");
    }

    private static void behind() {
        still("UNKNOWN: there is no such PERSON", "UNKNOWN", "behind(2, 0)", "behind(-1, 0)", "behind(5, 0)",
            "behind(32, 0)", "behind(MIN, 0)", "behind(MAX, 0)");
        still("OUTSIDE", "OUTSIDE", "behind(0, -1)", "behind(0, 3)", "behind(0, MIN)", "behind(0, MAX)");
        still("UNKNOWN fits ahead of OUTSIDE", "UNKNOWN", "behind(2, 3)", "behind(5, -1)");
        stillIn(WORLD + "; day A>", "NO: there is a FAULT", "NO", "behind(0, 0)", "behind(1, 1)", "behind(3, 2)");
        stillIn(WORLD + "; day AoE+", "NO: an EVENT can not be", "NO", "behind(0, 0)", "behind(1, 1)", "behind(3, 2)");
        stillIn(WORLD + "; day x", "UNKNOWN fits ahead of NO", "UNKNOWN", "behind(2, 0)", "behind(5, 3)");
        stillIn(WORLD + "; day x", "OUTSIDE fits ahead of NO", "OUTSIDE", "behind(0, 3)", "behind(0, -1)");
        still("not being DONE", "1", "behind(3, 2)", "behind(3, 1)");
        still("not being DONE", "2", "behind(0, 1)");
        edge("an empty PAD: as it is", "person(1, 6, 9, 4); behind(1, 0) = 6; behind(1, 1) = 4; behind(1, 2) = 0");
        edge("round the ring", "person(1, 0, 9, 4); day Bk; behind(1, 0) = 7; state(1, 0) = 0; day BkBo; behind(1, 0) = 0");
        edge("the PAD is kept", "person(1, 0, 9, 4); day Bk; behind(1, 0) = 7; behind(1, 0) = 7; told(0) = 2; done() = 1",
            "behind(1, 0) = 7");
    }

    private static void stones() {
        still("UNKNOWN: there is no such PLACE", "UNKNOWN", "stones(-1, 0)", "stones(8, 0)", "stones(MIN, 1)",
            "stones(MAX, 2)");
        still("OUTSIDE", "OUTSIDE", "stones(0, -1)", "stones(0, 3)", "stones(7, MIN)", "stones(7, MAX)");
        still("UNKNOWN fits ahead of OUTSIDE", "UNKNOWN", "stones(8, 3)", "stones(-1, -1)");
        edge("the last PLACE", "places(9); lay(8, 3); stones(8, 0) = 3; stones(8, 1) = 0; stones(8, 2) = 0; stones(9, 0) = UNKNOWN");
        edge("in the air as they are thrown", "person(0, 0, 9, 2); do A>095A<095; stones(0, 2) = 2; stones(0, 0) = 0",
            "do .; stones(0, 2) = 0; stones(1, 2) = 1; stones(7, 2) = 1");
        edge("twelve in the air at one PLACE", TWELVE, "stones(4, 2) = 12; stones(4, 0) = 0; do .; stones(5, 0) = 12");
        edge("lost in the HEDGE there alone", "person(0, 0, 9, 9); hedge(1, 5); hedge(7, 5); do A>095A>095A<095.",
            "stones(1, 1) = 2; stones(7, 1) = 1; stones(0, 1) = 0; stones(1, 0) = 0; stones(1, 2) = 0");
        edge("what one holds does not lie", "person(0, 3, 9, 9); stones(3, 0) = 0; stones(3, 2) = 0");
    }

    private static void air() {
        edge("none in the air", "air(-1) = 0; air(0) = NONE");
        edge("one in the air", "person(0, 0, 9, 2); do A>095; air(-1) = 1; air(0) = 0; air(1) = NONE");
        edge("twelve in the air", TWELVE, "air(-1) = 12; air(0) = 400; air(11) = 400; air(12) = NONE");
        still("NONE: there is no such one", "NONE", "air(2)", "air(11)", "air(12)", "air(-2)", "air(MIN)", "air(MAX)");
        still("those that are", "2", "air(-1)");
        edge("the least that is told", "person(0, 0, 9, 1); do A>095; air(0) = 0");
        edge("the most that is told", "places(9); person(0, 4, 36, 1); do A<105.....; air(0) = 851");
        edge("as they were thrown", "person(0, 0, 36, 9); person(1, 4, 36, 9); do B<365A<365B>365A>365.",
            "air(0) = 311; air(1) = 711; air(2) = 510; air(3) = 110");
        edge("as they were thrown, one being over", "person(0, 0, 36, 9); do A>011A<095A>095.; air(0) = 711; air(1) = 110",
            "air(2) = NONE; do A>365; air(2) = 0");
        edge("as they were thrown, by DAYS", "person(0, 0, 36, 9); do A<095.; do A>095; air(0) = 711; air(1) = 0");
        edge("round the ring, on", "person(0, 7, 36, 9); do A>095.; air(0) = 10; do .; air(0) = 120");
        edge("round the ring, back", "person(0, 0, 36, 9); do A<095.; air(0) = 711; do .; air(0) = 621");
    }

    private static void flight() {
        still("UNKNOWN: there is no such PERSON", "UNKNOWN", "flight(2, 0, 1, 1, 0)", "flight(-1, 0, 1, 1, 0)",
            "flight(5, 0, 1, 1, 0)", "flight(32, 0, 1, 1, 0)", "flight(MIN, 0, 1, 1, 0)", "flight(MAX, 0, 1, 1, 0)");
        still("OUTSIDE: WAY 0, 1", "OUTSIDE", "flight(0, -1, 1, 1, 0)", "flight(0, 2, 1, 1, 0)",
            "flight(0, MIN, 1, 1, 0)", "flight(0, MAX, 1, 1, 0)");
        still("OUTSIDE: REACH 1 to 36", "OUTSIDE", "flight(0, 0, 0, 1, 0)", "flight(0, 0, 37, 1, 0)",
            "flight(0, 0, MIN, 1, 0)", "flight(0, 0, MAX, 1, 0)");
        still("OUTSIDE: TOP 1 to 5", "OUTSIDE", "flight(0, 0, 1, 0, 0)", "flight(0, 0, 1, 6, 0)",
            "flight(0, 0, 1, MIN, 0)", "flight(0, 0, 1, MAX, 0)");
        still("OUTSIDE: what 0 to 3", "OUTSIDE", "flight(0, 0, 1, 1, -1)", "flight(0, 0, 1, 1, 4)",
            "flight(0, 0, 1, 1, MIN)", "flight(0, 0, 1, 1, MAX)");
        still("UNKNOWN fits ahead of OUTSIDE", "UNKNOWN", "flight(2, 2, 1, 1, 0)", "flight(2, 0, 37, 1, 0)",
            "flight(2, 0, 1, 6, 0)", "flight(5, 0, 1, 1, 4)");
        still("it is but told", "1", "flight(0, 0, 1, 1, 1)", "flight(0, 0, 5, 5, 3)");
        fly("REACH 1, the least", "person(0, 0, 36, 0)", "0, 0, 1, 1", 0, 1, 1, NONE);
        fly("REACH 36, TOP 5, the most", "person(0, 0, 36, 0)", "0, 0, 36, 5", 0, 36, 4, NONE);
        fly("whatever its ARM, in hand or not", "person(0, 0, 1, 0)", "0, 1, 36, 5", 0, 36, 4, NONE);
        fly("round the ring, on", "person(0, 6, 1, 0)", "0, 0, 3, 5", 0, 3, 1, NONE);
        fly("round the ring, back", "person(0, 1, 1, 0)", "0, 1, 3, 5", 0, 3, 6, NONE);
        String two = "person(0, 0, 1, 0); person(1, 3, 1, 0)";
        fly("0 high is not caught", two, "0, 0, 3, 5", 0, 3, 3, NONE);
        fly("1 high is caught", two, "0, 0, 4, 5", 2, 3, 3, 1);
        fly("2 high is caught", two, "0, 0, 5, 5", 2, 3, 3, 1);
        fly("3 high is not caught", two, "0, 0, 6, 5", 0, 6, 6, NONE);
        fly("a TOP of 2 is caught", two, "0, 0, 36, 2", 2, 3, 3, 1);
        fly("a TOP of 3 is not", two, "0, 0, 6, 3", 0, 6, 6, NONE);
        fly("the least PERSON", two + "; person(4, 3, 1, 0); person(2, 3, 1, 0)", "0, 0, 5, 5", 2, 3, 3, 1);
        fly("by oneself, from behind", "person(4, 0, 1, 0)", "4, 0, 9, 5", 2, 8, 0, 4);
        fly("by oneself, back", "person(4, 0, 1, 0)", "4, 1, 10, 5", 2, 8, 0, 4);
        fly("not by oneself as it is thrown", "person(4, 0, 1, 0)", "4, 0, 2, 2", 0, 2, 2, NONE);
        fly("not by oneself 0 high", "person(4, 0, 1, 0)", "4, 0, 8, 5", 0, 8, 0, NONE);
        fly("not by oneself 3 high", "person(4, 0, 1, 0)", "4, 0, 11, 5", 0, 11, 3, NONE);
        fly("in a HEDGE behind the first minute", "person(0, 0, 1, 0); hedge(1, 2)", "0, 0, 36, 5", 1, 1, 1, NONE);
        fly("over a HEDGE as high", "person(0, 0, 1, 0); hedge(5, 5); hedge(1, 1)", "0, 0, 10, 5", 2, 8, 0, 0);
        fly("in a HEDGE of 5, 4 high", "person(0, 0, 1, 0); hedge(5, 5)", "0, 0, 9, 5", 1, 5, 5, NONE);
        fly("in a HEDGE of 5, TOP 4", "person(0, 0, 1, 0); hedge(5, 5)", "0, 0, 10, 4", 1, 5, 5, NONE);
        fly("in a HEDGE behind the last minute", "person(0, 0, 1, 0); hedge(1, 1)", "0, 0, 1, 5", 1, 1, 1, NONE);
        fly("a HEDGE is ahead of a hand", two + "; hedge(3, 3)", "0, 0, 5, 5", 1, 3, 3, NONE);
        fly("nothing else being in the air", "person(0, 0, 9, 9); do A>095", "0, 0, 9, 5", 2, 8, 0, 0);
        fly("though twelve are in the air", TWELVE, "1, 0, 3, 5", 0, 3, 7, NONE);
        fly("the PAD does not matter", two + "; day Bo", "0, 0, 4, 5", 2, 3, 3, 1);
        edge("one is told behind another", two, "flight(0, 0, 4, 5, 0) = 2; flight(0, 0, 3, 5, 0) = 0; flight(0, 0, 3, 5, 3) = NONE",
            "hedge(1, 5); flight(0, 0, 4, 5, 0) = 1; hedge(1, 0); flight(0, 0, 2, 5, 0) = 0; flight(0, 0, 2, 5, 1) = 2");
    }

    private static void fly(String sentence, String world, String told, int ends, int minutes, int place, int by) {
        edge(sentence, world, "flight(" + told + ", 0) = " + ends, "flight(" + told + ", 1) = " + minutes,
            "flight(" + told + ", 2) = " + place, "flight(" + told + ", 3) = " + by);
    }

    // ---- promises 17 to 20

    private static void gets() {
        still("UNKNOWN: who throws", "UNKNOWN", "gets(2, 0, 0)", "gets(-1, 0, 0)", "gets(5, 0, 0)", "gets(MIN, 0, 0)",
            "gets(MAX, 0, 0)", "gets(32, 0, 0)");
        still("UNKNOWN: who catches", "UNKNOWN", "gets(0, 2, 0)", "gets(0, -1, 0)", "gets(0, 5, 0)", "gets(0, MIN, 0)",
            "gets(0, MAX, 0)", "gets(0, 33, 0)");
        still("OUTSIDE", "OUTSIDE", "gets(0, 1, -1)", "gets(0, 1, 5)", "gets(0, 1, MIN)", "gets(0, 1, MAX)");
        still("UNKNOWN: both fit ahead of OUTSIDE", "UNKNOWN", "gets(2, 0, 5)", "gets(0, 2, -1)", "gets(2, 2, 5)");
        still("it is but told", "41", "gets(0, 1, 1)", "gets(0, 1, 3)");
        getAll("NONE: by none", "person(0, 0, 1, 9); person(1, 3, 1, 0)", "0, 1", 0, NONE, NONE, NONE, NONE);
        getAll("NONE: the least ARM comes round to none", "person(0, 0, 1, 9)", "0, 0", 0, NONE, NONE, NONE, NONE);
        getAll("an ARM just too short", "person(0, 0, 3, 9); person(1, 3, 1, 0)", "0, 1", 0, NONE, NONE, NONE, NONE);
        getAll("an ARM just long enough", "person(0, 0, 4, 0); person(1, 3, 1, 0)", "0, 1", 5, 41, 3, 41, 3);
        getAll("just long enough, round the ring", "person(0, 2, 4, 0); person(1, 7, 1, 0)", "0, 1", 5, 1041, 3, 1041, 3);
        getAll("on and back alike: the least WAY", "person(0, 0, 5, 0); person(1, 4, 1, 0)", "0, 1", 10, 51, 4, 51, 4);
        getAll("just long enough to come round", "places(4); person(0, 1, 5, 0)", "0, 0", 10, 51, 4, 51, 4);
        getAll("not long enough to come round", "places(4); person(0, 1, 4, 0)", "0, 0", 0, NONE, NONE, NONE, NONE);
        getAll("another one catches ahead, on", "person(0, 0, 6, 0); person(1, 3, 1, 0); person(2, 1, 1, 0)", "0, 1",
            5, 1061, 5, 1061, 5);
        getAll("another one is less", "person(0, 0, 4, 0); person(2, 3, 1, 0); person(1, 3, 1, 0)", "0, 2",
            0, NONE, NONE, NONE, NONE);
        getAll("soonest is not softest", "person(0, 0, 6, 0); person(1, 3, 1, 0); hedge(2, 2)", "0, 1", 14, 42, 3, 1061, 5);
        getAll("what is in hand, in the air, does not matter", "person(0, 0, 4, 1); person(1, 3, 1, 0); do A>041", "0, 1",
            5, 41, 3, 41, 3);
        edge("one is told behind another", "person(0, 0, 4, 0); person(1, 3, 4, 0); gets(0, 1, 0) = 5; gets(0, 1, 0) = 5",
            "gets(1, 0, 1) = 1041; gets(0, 1, 1) = 41; person(1, 4, 1, 0); gets(0, 1, 0) = 0; gets(0, 1, 1) = NONE");
    }

    private static void getAll(String sentence, String world, String who, int... due) {
        StringBuilder script = new StringBuilder(world);
        for (int what = 0; what < due.length; what++) {
            script.append("; gets(").append(who).append(", ").append(what).append(") = ").append(due[what]);
        }
        edge(sentence, script.toString());
    }

    private static void round() {
        still("UNKNOWN", "UNKNOWN", "round(2)", "round(4)", "round(-1)", "round(5)", "round(32)", "round(MIN)", "round(MAX)");
        still("it is but told", "9", "round(0)");
        for (int n = 4; n <= 9; n++) {
            String ring = "places(" + n + "); person(4, " + (n - 1) + ", 1, 0)";
            edge("the least REACH by which it is not on the ground, of " + n, ring, "round(4) = " + (n + 1));
            edge("a HEDGE of 2 at home, of " + n, ring, "hedge(" + (n - 1) + ", 2)", "round(4) = " + (n + 2));
            edge("NONE: a HEDGE of 3 at home, of " + n, ring, "hedge(" + (n - 1) + ", 3)", "round(4) = NONE");
            edge("the other WAY, of " + n, ring, "hedge(0, 2); round(4) = " + (n + 1));
            edge("NONE: HEDGES on both WAYS, of " + n, ring, "hedge(0, 2)", "hedge(" + (n - 2) + ", 2)", "round(4) = NONE");
        }
        edge("NONE: another one at home is less", "person(1, 0, 36, 9); person(0, 0, 1, 0); round(1) = NONE; round(0) = 9");
        edge("over a hand on its way", "person(0, 0, 1, 0); person(1, 1, 1, 0); round(0) = 10");
        edge("NONE: hands on both WAYS", "person(0, 0, 1, 0); person(1, 1, 1, 0); person(2, 7, 1, 0); round(0) = NONE");
        edge("over a HEDGE of 3 ahead of home", "person(0, 0, 1, 0); hedge(7, 3); round(0) = 10");
        edge("NONE: a HEDGE of 4 ahead of home", "person(0, 0, 1, 0); hedge(7, 4); round(0) = NONE");
        edge("over a HEDGE of 5 on the other side", "places(9); person(0, 0, 1, 0); hedge(5, 5); round(0) = 10");
        edge("TOP as one likes, to 5", "places(9); person(0, 0, 1, 0); hedge(4, 4); hedge(5, 5); round(0) = 10; hedge(6, 5)",
            "round(0) = 11");
    }

    private static void keptOff() {
        still("UNKNOWN: who throws", "UNKNOWN", "keptOff(2, 0, 0)", "keptOff(-1, 0, 0)", "keptOff(5, 0, 0)",
            "keptOff(MIN, 0, 0)", "keptOff(MAX, 0, 0)");
        still("UNKNOWN: who catches", "UNKNOWN", "keptOff(0, 2, 0)", "keptOff(0, -1, 0)", "keptOff(0, 5, 0)",
            "keptOff(0, MIN, 0)", "keptOff(0, MAX, 0)");
        still("OUTSIDE", "OUTSIDE", "keptOff(0, 1, -1)", "keptOff(0, 1, 2)", "keptOff(0, 1, MIN)", "keptOff(0, 1, MAX)");
        still("UNKNOWN: both fit ahead of OUTSIDE", "UNKNOWN", "keptOff(2, 0, 2)", "keptOff(0, 2, -1)", "keptOff(2, 2, 2)");
        still("no HEDGE is grown", "2", "keptOff(0, 1, 0)");
        still("no HEDGE is grown", "1", "keptOff(0, 1, 1)");
        String two = "person(0, 0, 3, 9); person(1, 3, 1, 0)";
        edge("0 and NONE, if nothing is caught as it is", two, "keptOff(0, 1, 0) = 0; keptOff(0, 1, 1) = NONE");
        edge("0 and NONE, if one's own is not caught", two, "keptOff(0, 0, 0) = 0; keptOff(0, 0, 1) = NONE");
        edge("0 and NONE behind such a HEDGE", two, "person(0, 0, 4, 0); hedge(1, 2); keptOff(0, 1, 0) = 0",
            "keptOff(0, 1, 1) = NONE");
        edge("the least PLACE", two, "person(0, 0, 4, 0); keptOff(0, 1, 0) = 2; keptOff(0, 1, 1) = 1");
        edge("so high at least: a lower one is there", two, "person(0, 0, 4, 0); hedge(1, 1); keptOff(0, 1, 0) = 2",
            "keptOff(0, 1, 1) = 1");
        edge("the lowest is not at the least PLACE", two, "person(0, 0, 6, 0); hedge(1, 2); keptOff(0, 1, 0) = 2",
            "keptOff(0, 1, 1) = 3");
        edge("the lowest where they begin, round the ring", two, "person(0, 0, 36, 0); hedge(1, 2); keptOff(0, 1, 0) = 2",
            "keptOff(0, 1, 1) = 7");
        edge("from both sides: where it is caught, 3", two, "person(0, 0, 36, 0); keptOff(0, 1, 0) = 3; keptOff(0, 1, 1) = 3");
        edge("also over a HEDGE of 2 there", two, "person(0, 0, 36, 0); hedge(3, 2); keptOff(0, 1, 0) = 3",
            "keptOff(0, 1, 1) = 3");
        edge("a HEDGE of 3 there keeps all off", two, "person(0, 0, 36, 0); hedge(3, 3); keptOff(0, 1, 0) = 0",
            "keptOff(0, 1, 1) = NONE");
        edge("one's own, where it is thrown and caught", "places(4); person(2, 1, 9, 1); keptOff(2, 2, 0) = 3",
            "keptOff(2, 2, 1) = 1");
        edge("the last PLACE", "places(9); person(0, 7, 2, 0); person(1, 8, 1, 0); keptOff(0, 1, 0) = 2; keptOff(0, 1, 1) = 8");
        edge("PLACE 0", "person(0, 7, 2, 0); person(1, 0, 1, 0); keptOff(0, 1, 0) = 2; keptOff(0, 1, 1) = 0");
        edge("one is told behind another", two, "person(0, 0, 36, 0); keptOff(0, 1, 0) = 3; person(0, 0, 4, 0)",
            "keptOff(0, 1, 0) = 2; keptOff(0, 1, 1) = 1; places(9); person(0, 7, 2, 0); person(1, 8, 1, 0)",
            "keptOff(0, 1, 1) = 8; places(8); person(0, 7, 2, 0); person(1, 0, 1, 0); keptOff(0, 1, 1) = 0");
    }

    private static void laid() {
        still("it is but told", "4", "laid()");
        edge("nobody is there", "laid() = 0; lay(0, 1); laid() = 0");
        edge("all have one: they stay", "person(0, 0, 1, 1); person(1, 4, 1, 9); laid() = 0; lay(3, 5); laid() = 0");
        edge("NONE: nothing lies", "person(0, 0, 1, 0); laid() = NONE");
        edge("NONE: one too few lies", "person(0, 0, 1, 0); person(1, 0, 1, 0); lay(0, 1); laid() = NONE; lay(0, 2)",
            "laid() = 0");
        edge("NONE: five, four lie", "person(0, 0, 1, 0); person(1, 0, 1, 0); person(2, 0, 1, 0); person(3, 0, 1, 0)",
            "person(4, 0, 1, 0); lay(1, 4); laid() = NONE; lay(7, 1); laid() = 5; lay(0, 9); laid() = 0");
        edge("NONE: what is in the air does not lie", "person(0, 0, 9, 1); do A>095; laid() = NONE");
        edge("NONE: what is lost does not lie", "person(0, 0, 9, 1); hedge(1, 1); do A>011.; laid() = NONE");
        edge("at one's feet", "person(0, 5, 1, 0); lay(5, 1); laid() = 0");
        edge("the nearer way, back over 0", "person(0, 0, 1, 0); lay(7, 1); laid() = 1; lay(1, 1); laid() = 1");
        edge("the nearer way, on over the last", "person(0, 7, 1, 0); lay(0, 1); laid() = 1; lay(0, 0); lay(1, 1); laid() = 2");
        edge("as far on as back", "person(0, 0, 1, 0); lay(4, 1); laid() = 4; lay(4, 0); lay(5, 1); laid() = 3");
        edge("as far, of nine", "places(9); person(0, 0, 1, 0); lay(4, 1); laid() = 4; lay(4, 0); lay(5, 1); laid() = 4");
        edge("one each of its own", "person(0, 0, 1, 0); person(1, 0, 1, 0); lay(0, 1); lay(3, 1); laid() = 3");
        edge("who has one takes none", "person(0, 0, 1, 0); person(1, 2, 1, 1); lay(2, 1); laid() = 2");
        edge("the fewest of all together", "person(0, 0, 1, 0); person(1, 1, 1, 0); lay(1, 1); lay(3, 1); laid() = 3",
            "places(9); person(0, 0, 1, 0); person(1, 2, 1, 0); lay(1, 1); lay(8, 1); laid() = 2");
        edge("more than nine lie", "person(0, 0, 9, 2); lay(1, 9); do A>011.A>011.; laid() = 1; person(1, 1, 1, 0); laid() = 1");
        edge("five with nothing, all to one PLACE", "places(9); person(0, 0, 1, 0); person(1, 1, 1, 0); person(2, 2, 1, 0)",
            "person(3, 3, 1, 0); person(4, 4, 1, 0); lay(4, 9); laid() = 10; lay(4, 4); laid() = NONE; lay(8, 1); laid() = 7");
    }

    // ---- promises 21 to 26

    private static void list() {
        still("UNKNOWN: THROWS 0 to 5", "UNKNOWN", "list(-1, 0, 0, 1, 1, 0, 0)", "list(6, 0, 0, 1, 1, 0, 0)",
            "list(32, 0, 0, 1, 1, 0, 0)", "list(MIN, 0, 0, 1, 1, 0, 0)", "list(MAX, 0, 0, 1, 1, 0, 0)");
        still("UNKNOWN: the PERSON", "UNKNOWN", "list(1, 2, 0, 1, 1, 0, 0)", "list(0, -1, 0, 1, 1, 0, 0)",
            "list(0, 5, 0, 1, 1, 0, 0)", "list(0, 32, 0, 1, 1, 0, 0)", "list(0, MIN, 0, 1, 1, 0, 0)");
        still("OUTSIDE: WAY 0, 1", "OUTSIDE", "list(1, 0, -1, 1, 1, 0, 0)", "list(0, 0, 2, 1, 1, 0, 0)",
            "list(0, 0, MIN, 1, 1, 0, 0)", "list(0, 0, MAX, 1, 1, 0, 0)");
        still("OUTSIDE: REACH 1 to 36", "OUTSIDE", "list(1, 0, 0, 0, 1, 0, 0)", "list(0, 0, 0, 37, 1, 0, 0)",
            "list(0, 0, 0, MIN, 1, 0, 0)", "list(0, 0, 0, MAX, 1, 0, 0)");
        still("OUTSIDE: TOP 1 to 5", "OUTSIDE", "list(1, 0, 0, 1, 0, 0, 0)", "list(0, 0, 0, 1, 6, 0, 0)",
            "list(0, 0, 0, 1, MIN, 0, 0)", "list(0, 0, 0, 1, MAX, 0, 0)");
        still("OUTSIDE: AT 0 to 99", "OUTSIDE", "list(1, 0, 0, 1, 1, -1, 0)", "list(0, 0, 0, 1, 1, 100, 0)",
            "list(0, 0, 0, 1, 1, MIN, 0)", "list(0, 0, 0, 1, 1, MAX, 0)");
        still("OUTSIDE: EACH 0 to 20", "OUTSIDE", "list(1, 0, 0, 1, 1, 0, -1)", "list(0, 0, 0, 1, 1, 0, 21)",
            "list(0, 0, 0, 1, 1, 0, MIN)", "list(0, 0, 0, 1, 1, 0, MAX)");
        still("UNKNOWN fits ahead of OUTSIDE", "UNKNOWN", "list(6, 0, 2, 1, 1, 0, 0)", "list(0, 2, 0, 37, 1, 0, 0)",
            "list(-1, 2, 0, 1, 0, 100, 21)");
        edge("the least of all", "person(0, 0, 1, 0); list(0, 0, 0, 1, 1, 0, 0) = 1; told(4) = 1");
        edge("the most of all", "person(4, 7, 1, 0); list(5, 4, 1, 36, 5, 99, 20) = 1; told(4) = 32");
        edge("how many are, to six", "person(0, 0, 1, 0); list(3, 0, 0, 1, 1, 0, 0) = 1; list(0, 0, 0, 1, 1, 0, 0) = 2",
            "list(5, 0, 0, 1, 1, 0, 0) = 3; list(1, 0, 0, 1, 1, 0, 0) = 4; list(2, 0, 0, 1, 1, 0, 0) = 5",
            "list(4, 0, 0, 1, 1, 0, 0) = 6; told(4) = 63; list(4, 0, 0, 1, 1, 0, 0) = 6");
        edge("or otherwise, if it was: another WAY", "person(0, 0, 1, 0); list(0, 0, 0, 4, 1, 0, 0) = 1; duck(1, 9, 0) = 1",
            "list(0, 0, 1, 4, 1, 0, 0) = 1; told(4) = 1; duck(1, 9, 0) = 0; duck(7, 9, 0) = 1");
        edge("or otherwise: another PERSON, REACH and TOP", "person(0, 0, 1, 0); person(1, 4, 1, 0)",
            "list(0, 0, 0, 4, 1, 0, 0) = 1; list(0, 1, 0, 3, 5, 0, 0) = 1; duck(1, 9, 0) = 0; duck(5, 9, 0) = 1",
            "duck(6, 9, 0) = 1; duck(7, 9, 0) = 0; list(0, 1, 0, 8, 5, 0, 0) = 1; duck(7, 9, 0) = 0; list(0, 1, 0, 8, 2, 0, 0)",
            "duck(7, 9, 0) = 1");
        edge("or otherwise: another AT and EACH", "person(0, 0, 1, 0); list(0, 0, 0, 2, 1, 3, 2) = 1; duck(1, 9, 1) = 4",
            "duck(1, 9, 0) = 3; list(0, 0, 0, 2, 1, 5, 0) = 1; duck(1, 9, 1) = 6; duck(1, 9, 0) = 1");
        edge("its PLACE is kept: it walks", "person(0, 0, 1, 0); list(0, 0, 0, 2, 1, 0, 0); do AoAoAo; duck(1, 9, 0) = 1",
            "duck(4, 9, 0) = 0");
        edge("its PLACE is kept: it is there anew", "person(0, 0, 1, 0); list(0, 0, 0, 2, 1, 0, 0); person(0, 3, 1, 0)",
            "duck(1, 9, 0) = 1; duck(4, 9, 0) = 0");
        edge("its PLACE is kept: it leaves", "person(0, 0, 1, 0); list(0, 0, 0, 2, 1, 0, 0); leave(0); duck(1, 9, 0) = 1");
        edge("whatever its ARM, in hand or not", "person(0, 0, 1, 0); list(0, 0, 0, 36, 5, 0, 0) = 1; duck(3, 35, 1) = 35");
        edge("HEDGES as they are now", "person(0, 0, 1, 0); list(0, 0, 0, 4, 5, 0, 0); duck(2, 9, 0) = 1; hedge(1, 2)",
            "duck(2, 9, 0) = 0; hedge(1, 1); duck(2, 9, 0) = 1");
        edge("PEOPLE as they are now", "person(0, 0, 1, 0); list(0, 0, 0, 4, 5, 0, 0); person(1, 2, 1, 0); duck(3, 9, 0) = 0",
            "leave(1); duck(3, 9, 0) = 1");
        edge("others in the air do not matter", "person(0, 0, 9, 2); list(0, 0, 0, 9, 5, 0, 0); list(1, 0, 0, 9, 5, 0, 0)",
            "do A>095; duck(7, 9, 0) = 1; duck(0, 9, 0) = 1");
    }

    private static void strike() {
        still("UNKNOWN: it was not listed", "UNKNOWN", "strike(1)", "strike(5)");
        still("UNKNOWN: THROWS 0 to 5", "UNKNOWN", "strike(-1)", "strike(6)", "strike(32)", "strike(36)", "strike(MIN)",
            "strike(MAX)");
        edge("how many are, to none", "person(0, 0, 1, 0); list(0, 0, 0, 4, 1, 0, 0); list(5, 0, 0, 4, 1, 0, 0)",
            "strike(0) = 1; told(4) = 32; strike(5) = 0; told(4) = 0; duck(1, 9, 0) = 0");
        edge("it is struck but once", "person(0, 0, 1, 0); list(0, 0, 0, 4, 1, 0, 0); strike(0) = 0; strike(0) = UNKNOWN",
            "list(0, 0, 0, 4, 1, 0, 0) = 1; strike(0) = 0");
    }

    /** A and B, who threw from 0 and 4 and left, so that nobody catches; C threw from 1. */
    private static void meets(String sentence, String one, String two, String due) {
        String world = "person(0, 0, 1, 0); person(1, 4, 1, 0); person(2, 1, 1, 0); list(3, " + one + "); list(5, " + two
            + "); leave(0); leave(1); leave(2)";
        edge(sentence, world, "meet(3, 5) = " + due, "meet(5, 3) = " + due);
    }

    private static void meet() {
        still("UNKNOWN: one was not listed", "UNKNOWN", "meet(0, 1)", "meet(1, 0)", "meet(4, 5)", "meet(5, 4)", "meet(1, 2)");
        still("UNKNOWN: there is no such THROW", "UNKNOWN", "meet(0, 6)", "meet(6, 0)", "meet(-1, 0)", "meet(0, -1)",
            "meet(0, 36)", "meet(MIN, 0)", "meet(0, MAX)");
        still("UNKNOWN: both are one", "UNKNOWN", "meet(0, 0)", "meet(4, 4)");
        edge("UNKNOWN: both are one that comes again and again", "person(0, 0, 1, 0); list(0, 0, 0, 9, 1, 0, 1)",
            "meet(0, 0) = UNKNOWN; list(1, 0, 0, 9, 1, 0, 1); meet(0, 1) = 1");
        meets("not as they are thrown, 0 high", "0, 0, 9, 5, 0, 0", "0, 0, 9, 5, 0, 0", "1");
        meets("not as one is thrown where the other lies", "0, 0, 1, 1, 0, 0", "2, 0, 9, 1, 1, 0", "NONE");
        meets("one minute behind the other", "0, 0, 9, 5, 0, 0", "0, 0, 9, 5, 1, 0", "NONE");
        meets("one minute behind, TOP 1, from the next PLACE", "0, 0, 9, 1, 0, 0", "2, 0, 9, 1, 1, 0", "2");
        meets("at one PLACE, not as high", "0, 0, 9, 5, 0, 0", "1, 1, 9, 5, 2, 0", "NONE");
        meets("as high, at one PLACE", "0, 0, 9, 5, 0, 0", "1, 1, 9, 5, 0, 0", "2");
        meets("both at the last AT", "0, 0, 9, 5, 99, 0", "1, 1, 9, 5, 99, 0", "101");
        meets("0: but once, too early", "0, 0, 2, 1, 98, 0", "0, 1, 2, 1, 99, 1", "NONE");
        meets("0: but once, ahead of the first of the other", "0, 0, 2, 1, 3, 0", "0, 0, 2, 1, 4, 1", "NONE");
        meets("0: but once, with the first of the other", "0, 0, 2, 1, 4, 0", "0, 0, 2, 1, 4, 20", "5");
        meets("0: but once, with the second of the other", "0, 0, 2, 1, 24, 0", "0, 0, 2, 1, 4, 20", "25");
        meets("0: but once, between two of the other", "0, 0, 2, 1, 23, 0", "0, 0, 2, 1, 4, 20", "NONE");
        meets("each minute, each minute", "0, 0, 2, 1, 0, 1", "0, 0, 2, 1, 99, 1", "100");
        meets("each 20 minutes, with the last remainder", "0, 0, 2, 1, 0, 20", "0, 0, 2, 1, 99, 19", "461");
        meets("each 20 minutes, with the first", "0, 0, 2, 1, 19, 20", "0, 0, 2, 1, 99, 19", "100");
        meets("remainders that never meet, by 20", "0, 0, 2, 1, 0, 20", "0, 0, 2, 1, 99, 20", "NONE");
        meets("remainders that never meet, by 2", "0, 0, 2, 1, 0, 6", "0, 0, 2, 1, 1, 4", "NONE");
        meets("remainders that meet, by 2", "0, 0, 2, 1, 0, 6", "0, 0, 2, 1, 2, 4", "7");
        meets("at one PLACE never, at another one ever", "0, 0, 4, 1, 0, 4", "1, 1, 4, 1, 0, 4", "2");
        meets("at one PLACE never, at another one sooner", "0, 0, 4, 1, 0, 4", "1, 1, 4, 1, 2, 4", "3");
        meets("the first of several minutes", "0, 0, 9, 5, 0, 3", "1, 1, 9, 5, 0, 5", "2");
        meets("not 0 high behind the last", "0, 0, 2, 5, 0, 0", "1, 1, 2, 5, 0, 0", "NONE");
        meets("behind the last minute but one", "0, 0, 3, 5, 0, 0", "1, 1, 3, 5, 0, 0", "2");
        String at3 = "person(0, 0, 1, 0); person(1, 4, 1, 0); list(0, 0, 0, 5, 1, 0, 0); list(1, 1, 1, 2, 1, 2, 0)";
        edge("not yet ended by it", at3, "meet(0, 1) = 3");
        edge("ended by it: caught there", at3, "person(2, 3, 1, 0); meet(0, 1) = NONE");
        edge("ended by it: in a HEDGE there", at3, "hedge(3, 2); meet(0, 1) = NONE");
        edge("a HEDGE as high ends nothing", at3, "hedge(3, 1); meet(0, 1) = 3");
        edge("ended ahead: caught", at3, "person(2, 2, 1, 0); meet(0, 1) = NONE");
    }

    private static void forbidden() {
        still("OUTSIDE", "OUTSIDE", "forbidden(-1)", "forbidden(2)", "forbidden(MIN)", "forbidden(MAX)");
        edge("none listed", "forbidden(0) = 0; forbidden(1) = 0");
        edge("one listed", "person(0, 0, 1, 0); list(5, 0, 0, 9, 1, 0, 1); forbidden(0) = 0; forbidden(1) = 0");
        edge("two that never meet", "person(0, 0, 1, 0); list(0, 0, 0, 9, 5, 0, 0); list(5, 0, 1, 9, 5, 1, 0)",
            "forbidden(0) = 0; forbidden(1) = 0");
        edge("two that meet: the least as bits", "person(0, 0, 1, 0); list(2, 0, 0, 9, 5, 0, 0); list(5, 0, 0, 9, 5, 0, 0)",
            "forbidden(0) = 1; forbidden(1) = 4");
        StringBuilder six = new StringBuilder("person(0, 0, 1, 0)");
        for (int i = 0; i < 6; i++) {
            six.append("; list(").append(i).append(", 0, 0, 9, 5, 0, 0)");
        }
        edge("all six meet", six.toString(), "forbidden(0) = 5; forbidden(1) = 31");
        edge("all five meet, the first is not listed", six.toString(), "strike(0); forbidden(0) = 4; forbidden(1) = 30");
        edge("all five meet, the last is not listed", six.toString(), "strike(5); forbidden(0) = 4; forbidden(1) = 15");
        edge("one that meets all others, the last", six.toString(), "list(0, 0, 0, 9, 5, 10, 0); list(1, 0, 0, 9, 5, 11, 0)",
            "list(2, 0, 0, 9, 5, 12, 0); list(3, 0, 0, 9, 5, 13, 0); list(4, 0, 0, 9, 5, 14, 0); list(5, 0, 0, 9, 5, 0, 1)",
            "forbidden(0) = 1; forbidden(1) = 32");
        edge("three pairs", six.toString(), "list(0, 0, 0, 9, 5, 10, 0); list(5, 0, 0, 9, 5, 10, 0); list(1, 0, 0, 9, 5, 40, 0)",
            "list(4, 0, 0, 9, 5, 40, 0); forbidden(0) = 3; forbidden(1) = 7");
        still("it is but told", "0", "forbidden(0)", "forbidden(1)");
        String at3 = "person(0, 0, 1, 0); person(1, 4, 1, 0); list(0, 0, 0, 5, 1, 0, 0); list(1, 1, 1, 2, 1, 2, 0)";
        edge("PEOPLE, HEDGES as they are now", at3, "forbidden(0) = 1; person(2, 3, 1, 0); forbidden(0) = 0; leave(2)",
            "forbidden(1) = 1; hedge(3, 2); forbidden(0) = 0; forbidden(1) = 0");
        edge("one is told behind another", six.toString(), "hands(1) = 1; forbidden(1) = 31; list(3, 0, 1, 9, 5, 70, 0)",
            "forbidden(1) = 23; hands(1) = 1; strike(0); strike(1); strike(2); forbidden(1) = 16; strike(4); forbidden(1) = 0");
        edge("hands() told ahead", "person(0, 0, 1, 0); list(0, 0, 0, 9, 5, 0, 0); list(1, 0, 1, 9, 5, 1, 0); hands(1) = 1",
            "forbidden(0) = 0; forbidden(1) = 0");
    }

    private static void duck() {
        still("UNKNOWN: there is no such PLACE", "UNKNOWN", "duck(-1, 1, 0)", "duck(8, 1, 0)", "duck(MIN, 1, 0)",
            "duck(MAX, 1, 0)");
        still("OUTSIDE: m 1 to 999", "OUTSIDE", "duck(0, 0, 0)", "duck(0, 1000, 0)", "duck(0, -1, 0)", "duck(0, MIN, 0)",
            "duck(0, MAX, 0)");
        still("OUTSIDE: what 0, 1", "OUTSIDE", "duck(0, 1, -1)", "duck(0, 1, 2)", "duck(0, 1, MIN)", "duck(0, 1, MAX)");
        still("UNKNOWN fits ahead of OUTSIDE", "UNKNOWN", "duck(8, 0, 0)", "duck(-1, 1000, 0)", "duck(8, 1, 2)");
        edge("none listed", "duck(0, 999, 0) = 0; duck(0, 999, 1) = NONE; duck(7, 1, 0) = 0; duck(7, 1, 1) = NONE");
        String once = "person(0, 0, 1, 0); list(0, 0, 0, 4, 5, 0, 0)";
        edge("m 1, the least", once, "duck(1, 1, 0) = 1; duck(1, 1, 1) = 1; duck(2, 1, 0) = 0; duck(2, 1, 1) = NONE");
        edge("0: but once, in all of 999", once, "duck(1, 999, 0) = 1; duck(2, 999, 0) = 1; duck(3, 999, 0) = 1");
        edge("just the last minute", once, "duck(3, 2, 0) = 0; duck(3, 2, 1) = NONE; duck(3, 3, 0) = 1; duck(3, 3, 1) = 3");
        edge("not 0 high as it is thrown", once, "duck(0, 999, 0) = 0; duck(0, 999, 1) = NONE");
        edge("not 0 high as it lies", once, "duck(4, 999, 0) = 0; duck(4, 999, 1) = NONE");
        String each = "person(0, 0, 1, 0); list(5, 0, 0, 4, 5, 0, 1)";
        edge("m 999, the most", each, "duck(1, 999, 0) = 999; duck(1, 999, 1) = 1; duck(3, 999, 0) = 997; duck(3, 999, 1) = 3");
        edge("one is told behind another", each, "duck(1, 999, 0) = 999; strike(5); duck(1, 999, 0) = 0; duck(1, 999, 1) = NONE");
        edge("1 or 2 high, not 3", "person(0, 0, 1, 0); list(0, 0, 0, 6, 5, 0, 0); duck(1, 99, 0) = 1; duck(2, 99, 0) = 1",
            "duck(3, 99, 0) = 0; duck(4, 99, 0) = 1; duck(5, 99, 0) = 1; duck(6, 99, 0) = 0");
        edge("0: but once, at the last AT", "person(0, 0, 1, 0); list(0, 0, 0, 4, 5, 99, 0); duck(1, 99, 0) = 0",
            "duck(1, 100, 0) = 1; duck(1, 999, 0) = 1; duck(1, 999, 1) = 100");
        edge("each 20, the most", "person(0, 0, 1, 0); list(0, 0, 0, 4, 5, 99, 20); duck(1, 999, 0) = 45; duck(1, 980, 0) = 45",
            "duck(1, 979, 0) = 44; duck(1, 999, 1) = 100");
        edge("round the ring, twice at one PLACE", "person(0, 0, 1, 0); list(0, 0, 0, 17, 1, 0, 0); leave(0)",
            "duck(0, 99, 0) = 2; duck(0, 99, 1) = 8; duck(1, 99, 0) = 2; duck(1, 99, 1) = 1");
        edge("a minute counts but once", "person(0, 0, 1, 0); list(0, 0, 0, 17, 1, 0, 8); leave(0); duck(0, 100, 0) = 12",
            "duck(0, 100, 1) = 8");
        edge("two THROWS, one minute", once, "list(1, 0, 0, 4, 5, 0, 0); duck(1, 99, 0) = 1; list(1, 0, 0, 4, 5, 1, 0)",
            "duck(1, 99, 0) = 2; duck(1, 99, 1) = 1");
        edge("caught there just then", once, "person(1, 2, 1, 0); duck(2, 99, 0) = 1; duck(2, 99, 1) = 2; duck(3, 99, 0) = 0");
        edge("caught by oneself just then", "person(0, 0, 1, 0); list(0, 0, 0, 9, 5, 0, 0); duck(0, 99, 0) = 1; duck(0, 99, 1) = 8");
        edge("not in a HEDGE there just then", once, "hedge(2, 3); duck(2, 99, 0) = 0; hedge(2, 2); duck(2, 99, 0) = 1");
        edge("the last PLACE", "person(0, 0, 1, 0); list(0, 0, 1, 2, 1, 0, 0); duck(7, 9, 0) = 1; duck(7, 9, 1) = 1");
    }

    private static void hands() {
        still("OUTSIDE", "OUTSIDE", "hands(-1)", "hands(2)", "hands(MIN)", "hands(MAX)");
        edge("none listed: no hand", "hands(0) = 0; hands(1) = 0");
        String one = "person(0, 0, 1, 0); list(0, 0, 0, 8, 5, 0, 0)";
        edge("one listed: the least as bits", one, "hands(0) = 1; hands(1) = 2");
        edge("NONE: REACH 1 can not be caught", "person(0, 0, 1, 0); list(0, 0, 0, 1, 5, 0, 0); hands(0) = NONE; hands(1) = NONE");
        edge("NONE: one of two can not be caught", one, "list(5, 0, 0, 1, 1, 0, 0); hands(0) = NONE; hands(1) = NONE");
        edge("NONE: a HEDGE is ahead of all hands", one, "hedge(1, 2); hands(0) = NONE; hands(1) = NONE");
        edge("a HEDGE as high as the STONE", one, "hedge(1, 1); hands(0) = 1; hands(1) = 2");
        edge("ahead of a HEDGE", one, "hedge(2, 3); hands(0) = 1; hands(1) = 2");
        edge("PEOPLE do not catch", one, "person(1, 1, 1, 0); hands(0) = 1; hands(1) = 2; list(1, 1, 0, 2, 1, 0, 0)",
            "hands(0) = 1; hands(1) = 4");
        edge("not where it is 3 high, or 0", "person(0, 0, 1, 0); list(0, 0, 0, 6, 5, 0, 0); list(1, 0, 1, 6, 1, 0, 0)",
            "hands(0) = 1; hands(1) = 16; list(0, 0, 0, 4, 5, 0, 0); hands(1) = 8; list(0, 0, 0, 3, 5, 0, 0); hands(0) = 2");
        edge("the last PLACE of nine", "places(9); person(0, 0, 1, 0); list(0, 0, 1, 2, 1, 0, 0); hands(0) = 1; hands(1) = 256");
        edge("PLACE 0, from behind", "person(0, 0, 1, 0); person(1, 7, 1, 0); list(0, 1, 0, 2, 1, 0, 0); hands(1) = 1");
        edge("three hands", "person(0, 0, 1, 0); person(1, 4, 1, 0)",
            "list(0, 0, 0, 2, 1, 0, 0); list(1, 0, 1, 2, 1, 0, 0); list(2, 1, 0, 2, 1, 0, 0); hands(0) = 3; hands(1) = 162");
        edge("one hand for all, higher as bits", "person(0, 0, 1, 0); person(1, 6, 1, 0); list(0, 0, 0, 9, 1, 0, 0)",
            "list(1, 1, 0, 2, 1, 0, 0); hands(0) = 1; hands(1) = 128");
        StringBuilder six = new StringBuilder("person(0, 0, 1, 0); person(1, 2, 1, 0); person(2, 4, 1, 0)");
        for (int i = 0; i < 6; i++) {
            six.append("; list(").append(i).append(", ").append(i / 2).append(", ").append(i % 2).append(", 2, 5, 0, 0)");
        }
        edge("six listed: 1 and 7, 3 and 1, 5 and 3", six.toString(), "hands(0) = 4; hands(1) = 170; hedge(5, 2)",
            "hands(0) = NONE; strike(4); hands(0) = 3; hands(1) = 138");
    }

    // ---- promises 27 to 31

    private static void seen() {
        still("UNKNOWN: the PLACE", "UNKNOWN", "seen(0, -1, 1)", "seen(0, 8, 1)", "seen(0, MIN, 1)", "seen(0, MAX, 1)");
        still("OUTSIDE: k 0 to 36", "OUTSIDE", "seen(-1, 0, 1)", "seen(37, 0, 1)", "seen(MIN, 0, 1)", "seen(MAX, 0, 1)");
        still("OUTSIDE: 1 to 5 high", "OUTSIDE", "seen(0, 0, 0)", "seen(0, 0, 6)", "seen(0, 0, -1)", "seen(0, 0, MIN)",
            "seen(0, 0, MAX)");
        still("UNKNOWN fits ahead of OUTSIDE", "UNKNOWN", "seen(37, 8, 1)", "seen(0, -1, 0)");
        String five = "seen(0, 0, 1); seen(36, 7, 5); seen(1, 1, 1); seen(1, 1, 1); seen(1, 1, 1)";
        edge("k 0 and 36, 1 and 5 high, the least and the most", "seen(0, 0, 1) = 1; seen(36, 7, 5) = 2; told(5) = 2");
        edge("6 at most", five, "told(5) = 5; seen(1, 1, 1) = 6; seen(1, 1, 1) = FULL; told(5) = 6");
        String six = WORLD + "; " + five;
        stillIn(six, "FULL", "FULL", "seen(1, 1, 1)", "seen(0, 0, 1)", "seen(36, 7, 5)");
        stillIn(six, "UNKNOWN fits ahead of FULL", "UNKNOWN", "seen(1, 8, 1)", "seen(1, -1, 1)");
        stillIn(six, "OUTSIDE fits ahead of FULL", "OUTSIDE", "seen(37, 1, 1)", "seen(1, 1, 6)");
        edge("not FULL behind forget()", five, "seen(1, 1, 1) = 6; forget() = 6; seen(1, 1, 1) = 1");
        edge("the last PLACE of nine", "places(9); seen(0, 9, 1) = UNKNOWN; seen(0, 8, 1) = 1");
    }

    private static void forget() {
        edge("none there were", "forget() = 0; told(5) = 0");
        edge("one there was", "seen(1, 1, 1); forget() = 1; told(5) = 0; forget() = 0");
        edge("they do not matter any more", "person(0, 0, 1, 0); seen(1, 4, 5); who(1) = 0; forget() = 1; who(1) = 10");
        edge("nothing else goes", WORLD, "forget() = 1; told(0) = 6; told(2) = 11; told(3) = 2; told(4) = 17");
    }

    private static void whoAll(String sentence, String world, int people, int throwsOf) {
        edge(sentence, world, "who(0) = " + people, "who(1) = " + throwsOf);
    }

    private static void who() {
        still("OUTSIDE", "OUTSIDE", "who(-1)", "who(2)", "who(MIN)", "who(MAX)");
        whoAll("nobody is there", "told(0)", 0, 0);
        whoAll("nobody is there, one was seen", "seen(1, 1, 1)", 0, 0);
        whoAll("no SIGHT: all, the least ARM", "person(4, 0, 1, 0)", 16, 10);
        whoAll("no SIGHT: all, the longest ARM", "person(0, 0, 36, 0)", 1, 360);
        whoAll("no SIGHT: all five", "person(0, 0, 36, 0); person(1, 0, 36, 0); person(2, 0, 36, 0); person(3, 0, 36, 0)"
            + "; person(4, 0, 36, 0)", 31, 1800);
        whoAll("to their ARMS: just too short", "person(0, 0, 3, 0); seen(3, 3, 1)", 0, 0);
        whoAll("to their ARMS: just long enough", "person(0, 0, 4, 0); seen(3, 3, 1)", 1, 5);
        whoAll("to their ARMS: one of two", "person(0, 0, 3, 9); person(3, 0, 4, 0); seen(3, 3, 1)", 8, 5);
        whoAll("behind the 0-th minute none is 1 high", "person(0, 0, 36, 0); seen(0, 0, 1)", 0, 0);
        whoAll("behind the 36-th minute none is 1 high", "person(0, 0, 36, 0); seen(36, 4, 1)", 0, 0);
        whoAll("behind the 35-th minute", "person(0, 0, 36, 0); seen(35, 3, 1)", 1, 3);
        whoAll("behind the 35-th minute, back", "person(0, 0, 36, 0); seen(35, 5, 1)", 1, 3);
        whoAll("5 high, the most", "person(0, 0, 36, 0); seen(5, 5, 5)", 1, 27);
        whoAll("5 high behind four minutes", "person(0, 0, 36, 0); seen(4, 4, 5)", 0, 0);
        whoAll("round the ring, on", "person(0, 7, 2, 0); seen(1, 0, 1)", 1, 5);
        whoAll("round the ring, back", "person(0, 0, 2, 0); seen(1, 7, 1)", 1, 5);
        whoAll("half round: on and back", "person(0, 0, 5, 0); seen(4, 4, 1)", 1, 10);
        whoAll("over behind that minute: caught there", "person(0, 0, 5, 0); person(1, 2, 1, 0); seen(2, 2, 2)", 1, 8);
        whoAll("over ahead of it: caught", "person(0, 0, 5, 0); person(1, 2, 1, 0); seen(3, 3, 1)", 0, 0);
        whoAll("over behind that minute: in a HEDGE there", "person(0, 0, 5, 0); hedge(2, 3); seen(2, 2, 2)", 1, 8);
        whoAll("over ahead of it: in a HEDGE", "person(0, 0, 5, 0); hedge(2, 3); seen(3, 3, 1)", 0, 0);
        whoAll("over a HEDGE as high", "person(0, 0, 4, 0); hedge(2, 2); seen(3, 3, 1)", 1, 4);
        whoAll("over ahead of one of two, whichever is told first", "person(0, 0, 5, 0); person(1, 2, 1, 0); seen(3, 3, 1)"
            + "; seen(2, 2, 2)", 0, 0);
        whoAll("over ahead of one of two", "person(0, 0, 5, 0); person(1, 2, 1, 0); seen(2, 2, 2); seen(3, 3, 1)", 0, 0);
        whoAll("by all SIGHTS", "person(0, 0, 36, 0); seen(2, 2, 2); seen(3, 3, 1)", 1, 4);
        whoAll("a SIGHT told twice", "person(0, 0, 4, 0); seen(3, 3, 1); seen(3, 3, 1)", 1, 5);
        whoAll("two SIGHTS that can not be of one throw", "person(0, 0, 36, 0); seen(3, 3, 1); seen(3, 4, 1)", 0, 0);
        whoAll("six SIGHTS of one throw", "person(0, 0, 36, 0); seen(1, 1, 1); seen(2, 2, 2); seen(3, 3, 3); seen(4, 4, 4)"
            + "; seen(5, 5, 5); seen(6, 6, 4)", 1, 1);
        whoAll("from both sides", "person(0, 0, 2, 0); person(1, 2, 2, 0); seen(1, 1, 1)", 3, 10);
        still("it is but told", "1", "who(0)");
    }

    private static void chance(String sentence, String world, String told, int upper, int lower) {
        edge(sentence, world, "slips(" + told + ", 0) = " + upper, "slips(" + told + ", 1) = " + lower);
    }

    private static void slips() {
        still("UNKNOWN: who throws", "LOST+UNKNOWN", "slips(2, 0, 0, 1, 1, 0, 0)", "slips(-1, 0, 0, 1, 1, 0, 0)",
            "slips(5, 0, 0, 1, 1, 0, 0)", "slips(MIN, 0, 0, 1, 1, 0, 0)", "slips(MAX, 0, 0, 1, 1, 0, 0)");
        still("UNKNOWN: who catches", "LOST+UNKNOWN", "slips(0, 2, 0, 1, 1, 0, 0)", "slips(0, -1, 0, 1, 1, 0, 0)",
            "slips(0, 5, 0, 1, 1, 0, 0)", "slips(0, MIN, 0, 1, 1, 0, 0)", "slips(0, MAX, 0, 1, 1, 0, 0)");
        still("OUTSIDE: WAY 0, 1", "LOST+OUTSIDE", "slips(0, 1, -1, 1, 1, 0, 0)", "slips(0, 1, 2, 1, 1, 0, 0)",
            "slips(0, 1, MIN, 1, 1, 0, 0)", "slips(0, 1, MAX, 1, 1, 0, 0)");
        still("OUTSIDE: REACH 1 to 36", "LOST+OUTSIDE", "slips(0, 1, 0, 0, 1, 0, 0)", "slips(0, 1, 0, 37, 1, 0, 0)",
            "slips(0, 1, 0, MIN, 1, 0, 0)", "slips(0, 1, 0, MAX, 1, 0, 0)");
        still("OUTSIDE: TOP 1 to 5", "LOST+OUTSIDE", "slips(0, 1, 0, 1, 0, 0, 0)", "slips(0, 1, 0, 1, 6, 0, 0)",
            "slips(0, 1, 0, 1, MIN, 0, 0)", "slips(0, 1, 0, 1, MAX, 0, 0)");
        still("OUTSIDE: c 0 to 5", "LOST+OUTSIDE", "slips(0, 1, 0, 1, 1, -1, 0)", "slips(0, 1, 0, 1, 1, 6, 0)",
            "slips(0, 1, 0, 1, 1, MIN, 0)", "slips(0, 1, 0, 1, 1, MAX, 0)");
        still("OUTSIDE: part 0, 1", "LOST+OUTSIDE", "slips(0, 1, 0, 1, 1, 0, -1)", "slips(0, 1, 0, 1, 1, 0, 2)",
            "slips(0, 1, 0, 1, 1, 0, MIN)", "slips(0, 1, 0, 1, 1, 0, MAX)");
        still("UNKNOWN: both fit ahead of OUTSIDE", "LOST+UNKNOWN", "slips(2, 0, 2, 1, 1, 0, 0)", "slips(0, 2, 0, 37, 1, 0, 0)",
            "slips(0, 2, 0, 1, 6, 0, 0)", "slips(5, 0, 0, 1, 1, 6, 0)", "slips(0, 5, 0, 1, 1, 0, 2)");
        still("it is but told", "1", "slips(0, 1, 0, 4, 5, 0, 0)");
        String two = "person(0, 0, 1, 0); person(1, 3, 1, 0)";
        int[][] due = {{3, 0, 0, 1}, {3, 1, 1, 10}, {3, 2, 1, 5}, {3, 3, 3, 10}, {3, 4, 2, 5}, {3, 5, 1, 2}, {4, 0, 1, 1},
            {4, 1, 9, 10}, {4, 2, 4, 5}, {4, 3, 7, 10}, {4, 4, 3, 5}, {4, 5, 1, 2}, {5, 0, 1, 1}, {5, 1, 9, 10}, {5, 5, 1, 2},
            {6, 0, 0, 1}, {6, 1, 1, 10}, {6, 5, 1, 2}, {7, 0, 0, 1}, {7, 5, 0, 1}, {2, 5, 0, 1}};
        for (int[] d : due) {
            chance("in lowest terms, REACH " + d[0] + ", c " + d[1], two, "0, 1, 0, " + d[0] + ", 5, " + d[1], d[2], d[3]);
        }
        chance("all three are caught", two, "0, 1, 0, 9, 1, 5", 1, 1);
        chance("as meant alone, c 0: always", two + "; hedge(3, 2)", "0, 1, 0, 5, 5, 0", 1, 1);
        chance("as meant alone, c 1", two + "; hedge(3, 2)", "0, 1, 0, 5, 5, 1", 4, 5);
        chance("as meant alone, c 4", two + "; hedge(3, 2)", "0, 1, 0, 5, 5, 4", 1, 5);
        chance("as meant alone, c 5: never", two + "; hedge(3, 2)", "0, 1, 0, 5, 5, 5", 0, 1);
        chance("0 is as 1", "person(0, 0, 1, 0); person(1, 1, 1, 0)", "0, 1, 0, 1, 1, 4", 2, 5);
        chance("37 is as 36, which is caught", "places(9); person(0, 0, 1, 0); person(1, 7, 1, 0)", "0, 1, 0, 36, 5, 3", 1, 1);
        chance("37 is as 36, which is not", "places(9); person(0, 0, 1, 0)", "0, 0, 0, 36, 5, 3", 0, 1);
        chance("35 becomes 36", "places(5); person(0, 0, 1, 0)", "0, 0, 0, 35, 5, 3", 3, 10);
        chance("one's own", "person(0, 0, 1, 0)", "0, 0, 0, 9, 5, 1", 9, 10);
        chance("back, round the ring", "person(0, 1, 1, 0); person(1, 6, 1, 0)", "0, 1, 1, 4, 5, 1", 9, 10);
    }

    private static void year() {
        still("OUTSIDE: a seed 0 to 9999", "OUTSIDE", "year(-1, 1, 0)", "year(10000, 1, 0)", "year(MIN, 1, 0)", "year(MAX, 1, 0)");
        still("OUTSIDE: m 1 to 99", "OUTSIDE", "year(0, 0, 0)", "year(0, 100, 0)", "year(0, MIN, 0)", "year(0, MAX, 0)");
        still("OUTSIDE: what 0 to 2", "OUTSIDE", "year(0, 1, -1)", "year(0, 1, 3)", "year(0, 1, MIN)", "year(0, 1, MAX)");
        edge("nobody is there", "year(0, 99, 0) = 0; year(0, 99, 1) = 0; year(0, 99, 2) = 0; year(9999, 99, 0) = 0");
        // seed 0: x is 74: E, on (14 is even), REACH 7 by its ARM, TOP 1
        edge("seed 0 and m 1, the least", "person(4, 0, 5, 1); person(0, 1, 1, 0); year(0, 1, 0) = 1; year(0, 1, 1) = 1",
            "year(0, 1, 2) = 0");
        // seed 9999: x is 749999 left over by 65537, 29092: C, on (5818 is even), REACH 2909 by its ARM, TOP 1
        edge("seed 9999, the most", "person(2, 7, 2, 1); person(0, 0, 1, 0); year(9999, 1, 0) = 1; year(9999, 1, 1) = 1",
            "leave(2); year(9999, 1, 0) = 0");
        // seed 874: x is 65624 left over by 65537, 87: C, back (17 is odd)
        edge("left over by 65537", "person(2, 0, 36, 1); person(0, 7, 1, 0); year(874, 1, 0) = 1; year(874, 1, 1) = 1",
            "leave(2); person(4, 0, 36, 9); year(874, 1, 0) = 0");
        edge("it can not: it is not there", "person(3, 0, 5, 9); year(0, 1, 0) = 0");
        edge("it can not: no STONE in hand", "person(4, 0, 5, 0); year(0, 1, 0) = 0");
        edge("it can not: twelve are in the air", TWELVE, "person(4, 1, 5, 1); year(0, 1, 0) = 0");
        edge("it can: eleven are in the air", "person(1, 4, 36, 9); person(2, 4, 36, 2); do " + "B>095".repeat(9) + "C>095C>095",
            "person(4, 1, 5, 1); year(0, 1, 0) = 1");
        edge("REACH is the least: 7 by an ARM of 7 leaves 0", "person(4, 0, 7, 1); hedge(1, 1); year(0, 1, 2) = 1");
        edge("REACH is the ARM: 7 by an ARM of 8 leaves 7", "person(4, 0, 8, 1); hedge(1, 1); year(0, 1, 2) = 0; hedge(7, 1)",
            "year(0, 7, 2) = 0; hedge(0, 1); year(0, 8, 2) = 1; year(0, 7, 2) = 0");
        // seed 5: x is 449: E, back (89 is odd), REACH 44 by its ARM, TOP 5
        edge("TOP 5, the most", "person(4, 0, 35, 1); hedge(3, 5); year(5, 5, 2) = 0; hedge(4, 5); year(5, 5, 2) = 1",
            "year(5, 4, 2) = 1; year(5, 3, 2) = 0");
        edge("TOP 1, the least", "person(4, 0, 8, 1); hedge(2, 2); year(0, 2, 2) = 1; year(0, 1, 2) = 0; hedge(2, 1)",
            "year(0, 2, 2) = 0");
        edge("back, round the ring", "person(4, 0, 35, 1); hedge(7, 2); year(5, 1, 2) = 1; hedge(7, 1); hedge(1, 2)",
            "year(5, 1, 2) = 0");
        edge("on, not back", "person(4, 0, 8, 1); hedge(7, 2); year(0, 1, 2) = 0; hedge(1, 2); year(0, 1, 2) = 1");
        edge("lost: those of ahead, too", "person(4, 0, 5, 3); hedge(1, 2); do E>055.E>055.; hedge(1, 0); year(0, 1, 2) = 2",
            "leave(4); year(0, 99, 2) = 2");
        edge("CAUGHT of the year alone", "person(0, 0, 9, 1); person(1, 1, 9, 0); do A>031.; state(1, 2) = 1; year(0, 1, 1) = 0");
        edge("from all as it is: what is in the air", "person(0, 0, 36, 1); do A>105.......; year(0, 1, 1) = 1");
        // seed 1: x is 149 and then 11249: E both times, and then 57305: A
        edge("one throw a minute, m of them", "person(4, 0, 5, 9); year(1, 1, 0) = 1; year(1, 2, 0) = 2; year(1, 3, 0) = 2",
            "person(0, 0, 1, 1); year(1, 2, 0) = 2; year(1, 3, 0) = 3");
        edge("the last in hand is thrown", "person(4, 0, 5, 1); year(1, 1, 0) = 1; year(1, 2, 0) = 1");
        // seed 34: x is 2624, TOP 26 by 5; seed 3: x is 299, TOP 2 by 5; seed 6: x is 524, TOP 5 by 5
        edge("TOP 2: 26 by 5 leaves 1", "person(4, 0, 36, 1); hedge(2, 2); year(34, 2, 0) = 1; year(34, 2, 2) = 0");
        edge("TOP 3: 299 is cut to 2", "person(4, 0, 36, 1); hedge(4, 4); year(3, 4, 2) = 1; hedge(4, 3); year(3, 4, 2) = 0");
        edge("TOP 1: 5 by 5 leaves 0", "person(4, 0, 36, 1); hedge(2, 2); year(6, 2, 2) = 1");
        // seeds 1747, 3495, 873, 2621: x is 25, 51, 12, 38
        edge("PERSON 0, back: 5 is odd", "person(0, 0, 36, 1); hedge(7, 2); year(1747, 1, 0) = 1; year(1747, 1, 2) = 1");
        edge("PERSON 1, on: 10 is even", "person(1, 0, 36, 1); hedge(1, 2); year(3495, 1, 0) = 1; year(3495, 1, 2) = 1");
        edge("PERSON 2, on: 2 is even", "person(2, 0, 36, 1); hedge(1, 2); year(873, 1, 0) = 1; year(873, 1, 2) = 1");
        edge("PERSON 3, back: 7 is odd", "person(3, 0, 36, 1); hedge(7, 2); year(2621, 1, 0) = 1; year(2621, 1, 2) = 1");
        edge("lost at the last PLACE of nine", "places(9); person(4, 7, 8, 9); hedge(8, 5); do E>085.; hedge(8, 0); year(0, 1, 2) = 1",
            "hedge(8, 5); year(0, 1, 2) = 2; stones(8, 1) = 1");
        edge("lost at all PLACES", "person(0, 0, 36, 9); hedge(1, 5); hedge(7, 5); do A>095A>095A<095.; year(0, 1, 2) = 3");
        edge("one is told behind another", "person(4, 0, 8, 1); hedge(1, 2); year(0, 1, 2) = 1; year(0, 1, 2) = 1; hedge(1, 1)",
            "year(0, 1, 2) = 0; person(0, 1, 1, 0); year(0, 1, 1) = 1; year(0, 1, 1) = 1");
        still("nothing is DONE in fact", "0", "year(0, 1, 0)", "year(0, 1, 2)");
        for (int what = 0; what < 3; what++) {
            Asked asked = new Asked();
            play(asked, "m 99, the most", WORLD);
            long got = asked.call("year", 4321, 99, what);
            stillIn(WORLD, "m 99, the most: nothing is DONE in fact", Long.toString(got), "year(4321, 99, " + what + ")");
        }
    }

    // ---- promises 32 to 34

    private static void image() {
        still("OUTSIDE", "OUTSIDE", "image(-1)", "image(2)", "image(MIN)", "image(MAX)");
        edge("0 and 1 are apart", "hedge(0, 1); image(0) = 1; hedge(0, 2); image(1) = 1; hedge(0, 3); restore(0) = 1",
            "told(10) = 1; restore(1) = 1; told(10) = 2");
        edge("the other one was not kept", "image(0) = 1; restore(1) = STATE");
        edge("the other one was not kept", "image(1) = 1; restore(0) = STATE");
        edge("kept anew", "hedge(0, 1); image(0) = 1; hedge(0, 2); image(0) = 1; hedge(0, 3); restore(0) = 1; told(10) = 2");
        edge("the PAD is not kept", "day A>; image(0) = 1; wipe() = 2; restore(0) = 1; told(0) = 0; fault() = NONE");
        edge("kept, all stays", WORLD, "image(1) = 1; told(0) = 6; told(1) = 8; told(2) = 11; told(3) = 2; told(4) = 17",
            "told(5) = 1; done() = 2");
        edge("a new object may be kept", "image(0) = 1; person(0, 0, 1, 0); places(4); restore(0) = 1; told(1) = 8; told(2) = 0");
    }

    private static void restore() {
        still("OUTSIDE", "OUTSIDE", "restore(-1)", "restore(2)", "restore(MIN)", "restore(MAX)");
        edge("OUTSIDE fits ahead of STATE", "restore(2) = OUTSIDE; restore(-1) = OUTSIDE; restore(0) = STATE; restore(1) = STATE");
        still("STATE: it was not kept", "STATE", "restore(1)");
        edge("the PAD stays as it is", "image(0); day A>; restore(0) = 1; told(0) = 2; fault() = 2");
        edge("again and again", "image(0); hedge(0, 1); restore(0) = 1; told(10) = 0; hedge(0, 2); restore(0) = 1; told(10) = 0");
        edge("what is done behind it does not change what is kept", "person(0, 0, 9, 1); image(0); restore(0); person(0, 5, 1, 0)",
            "lay(0, 4); hedge(0, 4); seen(1, 1, 1); list(0, 0, 0, 1, 1, 0, 0); restore(0) = 1; state(0, 0) = 0; state(0, 1) = 1",
            "told(20) = 9; stones(0, 0) = 0; told(10) = 0; told(5) = 0; told(4) = 0");
        edge("PLACES", "places(9); hedge(8, 3); image(0); places(4); restore(0) = 1; told(1) = 9; told(18) = 3");
        edge("PEOPLE, all of them", "person(0, 3, 9, 2); image(0); leave(0); person(4, 1, 1, 1); restore(0) = 1; told(2) = 1",
            "state(0, 0) = 3; state(0, 1) = 2; told(20) = 9; state(4, 0) = UNKNOWN");
        edge("what was CAUGHT", "person(0, 0, 9, 2); person(1, 1, 9, 0); do A>031.; image(0); do A>031.; state(1, 2) = 2",
            "restore(0) = 1; state(1, 2) = 1; state(1, 1) = 1; state(0, 1) = 1");
        edge("STONES that lie, that are lost", "person(0, 0, 9, 2); hedge(1, 1); lay(3, 2); do A>011.; image(0); do A>011.",
            "lay(3, 0); stones(1, 1) = 2; restore(0) = 1; stones(1, 1) = 1; stones(3, 0) = 2");
        edge("STONES in the air, none", "person(0, 0, 9, 2); image(0); do A>095.; restore(0) = 1; air(-1) = 0; state(0, 1) = 2");
        edge("STONES in the air, twelve", TWELVE, "image(0); do .; air(-1) = 0; restore(0) = 1; air(-1) = 12; air(11) = 400",
            "day C>011; judge(1) = 4");
        edge("STONES in the air, the twelfth as it was", "person(1, 4, 36, 9); person(2, 4, 36, 3); do " + "B>095".repeat(9)
            + "C>095C>095C<082", "image(0); do .; air(-1) = 1; person(1, 5, 36, 9); person(2, 5, 36, 2); do "
            + "B>365".repeat(9) + "C>365C>365", "restore(0) = 1; air(-1) = 12; air(11) = 401; do .; air(-1) = 1; air(0) = 311",
            "do .; air(0) = 221; do .; air(0) = 121; do .....; air(-1) = 0; stones(4, 0) = 1");
        edge("STONES in the air, the twelfth goes on", "person(1, 4, 36, 9); person(2, 4, 36, 3); do " + "B>095".repeat(9)
            + "C>095C>095C<082", "year(0, 2, 0) = 0; do .; air(-1) = 1; air(0) = 311; do .; air(0) = 221");
        edge("STONES in the air, twelve as high as they were", "places(9); person(0, 0, 36, 9); person(1, 0, 36, 9)",
            "do " + "A>365B<365.".repeat(5), "air(-1) = 10; do A>365B<365.; air(-1) = 12; air(10) = 110; air(11) = 811; image(0)",
            "do .; air(10) = 220; air(11) = 721; restore(0) = 1; air(10) = 110; air(11) = 811; do .; air(11) = 721");
        edge("STONES in the air go on as they did", "person(0, 0, 36, 2); do A<092..; image(0); do A>365.......; air(-1) = 1",
            "restore(0) = 1; air(0) = 621; do .; air(0) = 521; do .; air(0) = 421; do ...; air(0) = 121; do .; air(-1) = 0",
            "state(0, 2) = 1; state(0, 1) = 2");
        edge("THROWS as they were", "person(0, 0, 9, 2); person(1, 4, 9, 2); list(0, 0, 0, 4, 5, 7, 9); image(0)",
            "list(0, 1, 1, 2, 1, 0, 0); list(5, 1, 1, 2, 1, 0, 0); restore(0) = 1; told(4) = 1; duck(1, 99, 1) = 8",
            "duck(1, 99, 0) = 11; duck(2, 99, 0) = 11; duck(3, 99, 1) = 10; duck(3, 99, 0) = 10");
        edge("SIGHTS as they were", "person(0, 0, 4, 0); seen(3, 3, 1); image(0); forget(); seen(1, 7, 1); seen(2, 2, 5)",
            "restore(0) = 1; told(5) = 1; who(1) = 5");
        edge("SIGHTS as they were, six", "person(0, 0, 36, 0); seen(1, 1, 1); seen(2, 2, 2); seen(3, 3, 3); seen(4, 4, 4)",
            "seen(5, 5, 5); seen(6, 6, 4); image(0); forget(); seen(9, 1, 1); seen(9, 1, 1); seen(9, 1, 1); seen(9, 1, 1)",
            "seen(9, 1, 1); seen(9, 1, 1) = 6; restore(0) = 1; told(5) = 6; who(1) = 1");
        edge("THROWS as they were, the last", "person(0, 0, 9, 2); person(1, 4, 9, 2); list(5, 1, 1, 8, 2, 7, 9); image(1)",
            "list(5, 0, 0, 2, 5, 0, 1); restore(1) = 1; told(4) = 32; duck(3, 99, 1) = 8; duck(3, 99, 0) = 11; duck(0, 99, 1) = 11",
            "leave(0); duck(5, 99, 1) = 14; duck(4, 99, 1) = NONE");
        edge("behind a DAY", WORLD, "done() = 2; restore(0) = 1; told(3) = 2; air(0) = 110; air(1) = 711; told(14) = 0",
            "state(3, 2) = 0; told(0) = 0");
    }

    private static void told() {
        still("OUTSIDE: nothing is told so", "OUTSIDE", "told(-1)", "told(6)", "told(7)", "told(8)", "told(9)", "told(18)",
            "told(19)", "told(25)", "told(26)", "told(30)", "told(MIN)", "told(MAX)");
        still("OUTSIDE: ARMS of PEOPLE who are not there", "OUTSIDE", "told(22)", "told(24)");
        edge("nothing of all", "told(0) = 0; told(1) = 8; told(2) = 0; told(3) = 0; told(4) = 0; told(5) = 0");
        edge("0 signs, the most", "day " + "~".repeat(60), "told(0) = 60");
        edge("2 PEOPLE, 4 THROWS, all as bits", "person(0, 0, 1, 0); person(4, 0, 1, 0); told(2) = 17; list(0, 0, 0, 1, 1, 0, 0)",
            "list(5, 0, 0, 1, 1, 0, 0); told(4) = 33");
        edge("3 STONES in the air, the most", TWELVE, "told(3) = 12; do .; told(3) = 0");
        edge("5 SIGHTS, the most", "seen(1, 1, 1); seen(1, 1, 1); seen(1, 1, 1); seen(1, 1, 1); seen(1, 1, 1); seen(1, 1, 1)",
            "told(5) = 6; seen(1, 1, 1) = FULL; told(5) = 6");
        edge("10 on: HEDGES of four PLACES", "places(4); hedge(0, 1); hedge(3, 5); told(9) = OUTSIDE; told(10) = 1; told(13) = 5",
            "told(14) = OUTSIDE");
        edge("10 on: HEDGES of nine PLACES", "places(9); hedge(8, 5); told(17) = 0; told(18) = 5; told(19) = OUTSIDE");
        edge("20 on: ARMS", "person(0, 0, 1, 0); person(4, 0, 36, 0); told(19) = OUTSIDE; told(20) = 1; told(21) = OUTSIDE",
            "told(24) = 36; told(25) = OUTSIDE; leave(4); told(24) = OUTSIDE");
    }

    // ---- all of them

    private static final Runnable[] PROMISES = {EdgesTest::newObject, EdgesTest::places, EdgesTest::hedge, EdgesTest::lay,
        EdgesTest::person, EdgesTest::leave, EdgesTest::say, EdgesTest::wipe, EdgesTest::fault, EdgesTest::judge,
        EdgesTest::doneAndMinutes, EdgesTest::state, EdgesTest::behind, EdgesTest::stones, EdgesTest::air, EdgesTest::flight,
        EdgesTest::gets, EdgesTest::round, EdgesTest::keptOff, EdgesTest::laid, EdgesTest::list, EdgesTest::strike,
        EdgesTest::meet, EdgesTest::forbidden, EdgesTest::duck, EdgesTest::hands, EdgesTest::seen, EdgesTest::forget,
        EdgesTest::who, EdgesTest::slips, EdgesTest::year, EdgesTest::image, EdgesTest::restore, EdgesTest::told};

    private static void doneAndMinutes() {
        done();
        minutes();
    }

    public static void main(String[] args) {
        for (promise = 1; promise <= PROMISES.length; promise++) {
            PROMISES[promise - 1].run();
        }
        System.out.println(wrong == 0 ? tests + " edges hold" : wrong + " edges do not hold");
        if (wrong != 0) {
            System.exit(1);
        }
    }
}
