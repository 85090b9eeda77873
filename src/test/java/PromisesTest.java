/**
 * Each promise by hand: ordinary inputs, edges and wrong inputs. What names a boundary case has a test of
 * its own in EdgesTest, which also looks that a refused call changes nothing.
 */
public final class PromisesTest {
    private static final int NONE = -6, UNKNOWN = -1, OUTSIDE = -2, STATE = -3, FULL = -4, NO = -5;
    private static final long LOST = -1000000000000000000L;
    private static final int MIN = Integer.MIN_VALUE, MAX = Integer.MAX_VALUE;
    private static int wrong;
    private static int promise;
    private static int checks;

    private static void due(String call, long got, long want) {
        checks++;
        if (got != want) {
            wrong++;
            System.out.println("promise " + promise + ": " + call + " answered " + got + ", due is " + want);
        }
    }

    private static void say(StoneRound x, String day) {
        x.wipe();
        for (char sign : day.toCharArray()) {
            x.say(sign);
        }
    }

    private static int doDay(StoneRound x, String day) {
        say(x, day);
        return x.done();
    }

    /** All that can be asked of a state without changing it, as one text. */
    private static String all(StoneRound x) {
        StringBuilder text = new StringBuilder();
        for (int what = -1; what <= 25; what++) {
            text.append(x.told(what)).append(' ');
        }
        for (int place = 0; place < 9; place++) {
            for (int what = 0; what < 3; what++) {
                text.append(x.stones(place, what)).append(' ');
            }
            text.append(x.duck(place, 200, 0)).append(' ');
        }
        for (int person = 0; person < 5; person++) {
            for (int what = 0; what < 3; what++) {
                text.append(x.state(person, what)).append(' ');
            }
        }
        for (int i = -1; i < 12; i++) {
            text.append(x.air(i)).append(' ');
        }
        text.append(x.fault()).append(' ').append(x.judge(0)).append(' ').append(x.who(1)).append(' ');
        text.append(x.forbidden(1)).append(' ').append(x.hands(1)).append(' ').append(x.year(7, 40, 0));
        return text.toString();
    }

    /** A state with something of everything. */
    private static StoneRound full() {
        StoneRound x = new StoneRound();
        x.person(0, 0, 36, 5);
        x.person(1, 3, 9, 2);
        x.hedge(5, 2);
        x.lay(2, 3);
        x.list(0, 0, 0, 12, 5, 3, 4);
        x.list(4, 1, 1, 7, 2, 0, 0);
        x.seen(2, 2, 2);
        doDay(x, "A>045A<103.");
        say(x, "A>");
        return x;
    }

    private static void same(StoneRound x, String before, String call, long got, long want) {
        due(call, got, want);
        String now = all(x);
        checks++;
        if (!now.equals(before)) {
            wrong++;
            System.out.println("promise " + promise + ": " + call + ", but something else is not as it was");
        }
    }

    private static void newObject() {
        StoneRound x = new StoneRound();
        due("told(1)", x.told(1), 8);
        for (int what : new int[] {0, 2, 3, 4, 5, 10, 17}) {
            due("told(" + what + ")", x.told(what), 0);
        }
        for (int place = 0; place < 8; place++) {
            for (int what = 0; what < 3; what++) {
                due("stones", x.stones(place, what), 0);
            }
        }
        for (int person = 0; person < 5; person++) {
            due("state", x.state(person, 0), UNKNOWN);
        }
        due("restore(0)", x.restore(0), STATE);
        due("restore(1)", x.restore(1), STATE);
    }

    private static void places() {
        StoneRound x = full();
        due("places(3)", x.places(3), OUTSIDE);
        due("places(10)", x.places(10), OUTSIDE);
        due("places(MIN)", x.places(MIN), OUTSIDE);
        due("places(MAX)", x.places(MAX), OUTSIDE);
        due("places(9)", x.places(9), 8);
        due("told(1)", x.told(1), 9);
        due("signs stay", x.told(0), 2);
        for (int what : new int[] {2, 3, 4, 5, 10, 11, 12, 13, 14, 15, 16, 17, 18}) {
            due("told(" + what + ")", x.told(what), 0);
        }
        for (int place = 0; place < 9; place++) {
            due("stones", x.stones(place, 0) + x.stones(place, 1) + x.stones(place, 2), 0);
        }
        due("hedge(8, 5)", x.hedge(8, 5), 0);
        due("places(4)", x.places(4), 9);
        due("hedge(4, 0)", x.hedge(4, 0), UNKNOWN);
        due("places(4)", x.places(4), 4);
        due("places(9)", x.places(9), 4);
        due("told(18)", x.told(18), 0);
        StoneRound lost = new StoneRound();
        lost.person(0, 0, 9, 2);
        lost.hedge(1, 5);
        doDay(lost, "A>022.");
        due("lost", lost.stones(1, 1), 1);
        due("places(8) again", lost.places(8), 8);
        due("lost is gone", lost.stones(1, 1), 0);
        lost.person(0, 0, 9, 0);
        due("nothing is lost", lost.year(0, 1, 2), 0);
    }

    private static void hedge() {
        StoneRound x = full();
        due("hedge(8, 1)", x.hedge(8, 1), UNKNOWN);
        due("hedge(-1, 9)", x.hedge(-1, 9), UNKNOWN);
        due("hedge(MAX, 0)", x.hedge(MAX, 0), UNKNOWN);
        due("hedge(0, 6)", x.hedge(0, 6), OUTSIDE);
        due("hedge(0, -1)", x.hedge(0, -1), OUTSIDE);
        due("hedge(5, 5)", x.hedge(5, 5), 2);
        due("hedge(5, 0)", x.hedge(5, 0), 5);
        due("hedge(7, 3)", x.hedge(7, 3), 0);
        due("told(17)", x.told(17), 3);
        StoneRound y = new StoneRound();
        y.person(0, 0, 36, 3);
        y.hedge(3, 3);
        due("as high passes", y.flight(0, 0, 9, 5, 1), 8);
        y.hedge(3, 4);
        due("higher holds", y.flight(0, 0, 9, 5, 0), 1);
        due("minutes", y.flight(0, 0, 9, 5, 1), 3);
        y.hedge(3, 0);
        y.hedge(1, 1);
        due("on the ground in a hedge", y.flight(0, 0, 1, 5, 0), 1);
        doDay(y, "A>011.");
        due("lost", y.stones(1, 1), 1);
        due("hedge(1, 0)", y.hedge(1, 0), 1);
        due("for good", y.stones(1, 1), 1);
    }

    private static void lay() {
        StoneRound x = full();
        due("lay(8, 1)", x.lay(8, 1), UNKNOWN);
        due("lay(-1, 10)", x.lay(-1, 10), UNKNOWN);
        due("lay(0, 10)", x.lay(0, 10), OUTSIDE);
        due("lay(0, -1)", x.lay(0, -1), OUTSIDE);
        due("lay(2, 9)", x.lay(2, 9), 3);
        due("lay(2, 0)", x.lay(2, 0), 9);
        due("stones(2, 0)", x.stones(2, 0), 0);
        StoneRound y = new StoneRound();
        y.person(0, 0, 9, 2);
        y.lay(1, 9);
        doDay(y, "A>015.A>015.");
        due("lay tells all that lie", y.lay(1, 4), 11);
        due("stones(1, 0)", y.stones(1, 0), 4);
    }

    private static void person() {
        StoneRound x = full();
        due("person(5, 0, 1, 0)", x.person(5, 0, 1, 0), UNKNOWN);
        due("person(-1, 0, 0, 0)", x.person(-1, 0, 0, 0), UNKNOWN);
        due("person(2, 8, 0, 0)", x.person(2, 8, 0, 0), UNKNOWN);
        due("person(2, -1, 1, 0)", x.person(2, -1, 1, 0), UNKNOWN);
        due("person(2, 0, 0, 0)", x.person(2, 0, 0, 0), OUTSIDE);
        due("person(2, 0, 37, 0)", x.person(2, 0, 37, 0), OUTSIDE);
        due("person(2, 0, 1, -1)", x.person(2, 0, 1, -1), OUTSIDE);
        due("person(0, 0, 1, 10)", x.person(0, 0, 1, 10), OUTSIDE);
        due("person(4, 7, 36, 9)", x.person(4, 7, 36, 9), 3);
        due("person(1, 6, 1, 0)", x.person(1, 6, 1, 0), 3);
        due("told(2)", x.told(2), 19);
        due("told(21)", x.told(21), 1);
        due("told(24)", x.told(24), 36);
        due("state(1, 0)", x.state(1, 0), 6);
        due("state(1, 1)", x.state(1, 1), 0);
        due("state(4, 1)", x.state(4, 1), 9);
        StoneRound y = new StoneRound();
        y.person(0, 0, 9, 1);
        y.person(1, 1, 9, 0);
        doDay(y, "A>031.");
        due("caught", y.state(1, 2), 1);
        y.person(1, 1, 9, 0);
        due("anew", y.state(1, 2), 0);
    }

    private static void leave() {
        StoneRound x = full();
        due("leave(2)", x.leave(2), UNKNOWN);
        due("leave(5)", x.leave(5), UNKNOWN);
        due("leave(-1)", x.leave(-1), UNKNOWN);
        due("leave(32)", x.leave(32), UNKNOWN);
        due("leave(0)", x.leave(0), 1);
        due("leave(0)", x.leave(0), UNKNOWN);
        due("told(2)", x.told(2), 2);
        due("told(20)", x.told(20), OUTSIDE);
        due("state(0, 1)", x.state(0, 1), UNKNOWN);
        due("its stones do not lie", x.stones(0, 0), 0);
        due("its throw is still listed", x.told(4), 17);
        due("its stone is still in the air", x.told(3), 2);
        due("leave(1)", x.leave(1), 0);
    }

    private static void say() {
        StoneRound x = full();
        due("say(32)", x.say(32), OUTSIDE);
        due("say(127)", x.say(127), OUTSIDE);
        due("say(MIN)", x.say(MIN), OUTSIDE);
        due("say(33)", x.say(33), 3);
        due("say(126)", x.say(126), 4);
        for (int i = 5; i <= 60; i++) {
            due("say('.')", x.say('.'), i);
        }
        due("say('.') at 60", x.say('.'), FULL);
        due("say(32) at 60", x.say(32), OUTSIDE);
    }

    private static void wipe() {
        StoneRound x = full();
        due("wipe()", x.wipe(), 2);
        due("wipe()", x.wipe(), 0);
        due("told(0)", x.told(0), 0);
        due("fault()", x.fault(), NONE);
        due("the rest stays", x.told(3), 2);
    }

    private static void fault() {
        StoneRound x = new StoneRound();
        String[] days = {"", ".", "A", "A>", "A>0", "A>01", "A>011", "E<365", "E<366", "E<360", "E<37", "A>00", "A>4",
            "A>/", "A>0/", "A>0:", "A>:", "F", "@", "a", "Ao", "Ak", "A+", "A.", "AO", "A-", ".Ao.B", ".AoBB", "+",
            "A>011A", "..x", "A>011>", "A>29", "A>301", "A>201", "A>101", "A>391"};
        int[] faults = {NONE, NONE, 1, 2, 3, 4, NONE, NONE, 4, 4, 3, 3, 2,
            2, 3, 3, 2, 0, 0, 0, NONE, NONE, NONE, 1, 1, 1, 5, 4, 0,
            6, 2, 5, 4, NONE, NONE, NONE, 3};
        for (int i = 0; i < days.length; i++) {
            say(x, days[i]);
            due("fault() of " + days[i], x.fault(), faults[i]);
        }
        say(x, "A>011".repeat(12));
        due("fault() of a full pad", x.fault(), NONE);
        say(x, ".".repeat(59) + "A");
        due("fault() where nothing more goes", x.fault(), 60);
    }

    private static void judge() {
        StoneRound x = full();
        due("judge(2)", x.judge(2), OUTSIDE);
        due("judge(-1)", x.judge(-1), OUTSIDE);
        due("judge(0)", x.judge(0), NO);
        StoneRound y = new StoneRound();
        y.person(0, 0, 5, 1);
        y.person(1, 4, 36, 9);
        y.person(2, 4, 36, 9);
        String[] days = {"", "Ao", "Do", "Dk", "D+", "D>011", "A>051", "A>061", "Ao.A+", "A>051A>061", "A>021..A>011",
            ".AoAkA+", "A>021..AoAoA+A+", "B>095".repeat(9) + "C>095C>095C>095",
            "C>361".repeat(9) + "B>361B>361D>011", "A>051A>061"};
        int[] events = {NONE, NONE, 0, 0, 0, 0, NONE, 0, 2, 1, 3, 3, 6, NONE, 11, 1};
        int[] why = {NONE, NONE, 1, 1, 1, 1, NONE, 3, 5, 2, 2, 5, 5, NONE, 1, 2};
        for (int i = 0; i < days.length; i++) {
            say(y, days[i]);
            due("judge(0) of " + days[i], y.judge(0), events[i]);
            due("judge(1) of " + days[i], y.judge(1), why[i]);
        }
        doDay(y, "B>095".repeat(9) + "C>095C>095C>095");
        due("twelve are in the air", y.told(3), 12);
        say(y, "C<011");
        due("judge(1)", y.judge(1), 4);
        say(y, "A>061");
        due("the arm is looked at ahead of the air", y.judge(1), 3);
        say(y, "B>011");
        due("so is the hand", y.judge(1), 2);
        say(y, "x");
        due("OUTSIDE is told ahead of NO", y.judge(2), OUTSIDE);
    }

    private static void done() {
        StoneRound x = full();
        due("done() with a fault", x.done(), NO);
        say(x, "AoAoE>011");
        due("done() that can not be", x.done(), NO);
        due("the pad is kept", x.wipe(), 9);
        due("done() of nothing", x.done(), 0);

        StoneRound y = new StoneRound();
        y.person(0, 0, 36, 2);
        due("round the world", doDay(y, "A>105........"), 9);
        due("caught from behind", y.state(0, 2), 1);
        due("in hand", y.state(0, 1), 2);
        due("pad", y.told(0), 0);
        due("walk back over 0", doDay(y, "Ak"), 1);
        due("state(0, 0)", y.state(0, 0), 7);
        due("walk on over 7", doDay(y, "AoAo"), 2);
        due("state(0, 0)", y.state(0, 0), 1);
        y.person(3, 1, 36, 9);
        y.person(2, 3, 36, 9);
        due("two at one place, as high, fall", doDay(y, "A>095C<095."), 3);
        due("ground", y.stones(2, 0), 2);
        due("three, too", doDay(y, "A>095C<095D>095."), 4);
        due("ground", y.stones(2, 0), 5);
        y.person(4, 2, 1, 9);
        due("who is there catches ahead of that", doDay(y, "C<095D>095."), 3);
        due("however many", y.state(4, 1), 11);
        due("picks up", doDay(y, "E+E+"), 2);
        due("in hand", y.state(4, 1), 13);
        due("ground", y.stones(2, 0), 3);
    }

    private static void minutes() {
        StoneRound y = new StoneRound();
        y.person(0, 0, 36, 9);
        y.person(1, 4, 36, 9);
        y.person(2, 4, 36, 9);
        y.hedge(1, 1);
        due("the two of A fall at once", doDay(y, "A>093B<095A>095..C<095."), 7);
        due("air(-1)", y.air(-1), 2);
        due("at 1, as high as the hedge", y.stones(1, 0), 2);
        due("air(0)", y.air(0), 131);
        due("air(1)", y.air(1), 311);
        y = new StoneRound();
        y.person(0, 0, 36, 9);
        y.person(1, 4, 36, 9);
        due("at one place, not as high", doDay(y, "A>095..B<095."), 5);
        due("air(0)", y.air(0), 330);
        due("air(1)", y.air(1), 311);
        y = new StoneRound();
        y.places(4);
        y.person(0, 0, 36, 9);
        y.person(1, 2, 36, 9);
        y.person(2, 2, 36, 9);
        due("the least of them catches", doDay(y, "A>041.."), 3);
        due("B", y.state(1, 2), 1);
        due("C", y.state(2, 2), 0);
        y.hedge(2, 3);
        due("a hedge is ahead of a hand", doDay(y, "A>055.."), 3);
        due("lost", y.stones(2, 1), 1);
        due("B", y.state(1, 2), 1);
    }

    private static void state() {
        StoneRound x = full();
        due("state(2, 0)", x.state(2, 0), UNKNOWN);
        due("state(5, 0)", x.state(5, 0), UNKNOWN);
        due("state(-1, 7)", x.state(-1, 7), UNKNOWN);
        due("state(0, 3)", x.state(0, 3), OUTSIDE);
        due("state(0, -1)", x.state(0, -1), OUTSIDE);
        due("state(0, 1)", x.state(0, 1), 3);
        due("state(1, 0)", x.state(1, 0), 3);
        doDay(x, "..");
        due("B caught A's", x.state(1, 2), 1);
        due("in hand", x.state(1, 1), 3);
        doDay(x, "B>095........");
        due("B caught its own", x.state(1, 2), 2);
    }

    private static void behind() {
        StoneRound x = full();
        due("behind(2, 0)", x.behind(2, 0), UNKNOWN);
        due("behind(2, 3)", x.behind(2, 3), UNKNOWN);
        due("behind(0, 3)", x.behind(0, 3), OUTSIDE);
        due("behind(0, -1)", x.behind(0, -1), OUTSIDE);
        due("behind(0, 0)", x.behind(0, 0), NO);
        say(x, "BoAoA>011E+");
        due("behind(1, 0)", x.behind(1, 0), NO);
        say(x, "..BoBoAk");
        due("behind(1, 0)", x.behind(1, 0), 5);
        due("behind(0, 0)", x.behind(0, 0), 7);
        due("behind(1, 1)", x.behind(1, 1), 3);
        due("behind(1, 2)", x.behind(1, 2), 1);
        due("state(1, 2)", x.state(1, 2), 0);
    }

    private static void stones() {
        StoneRound x = full();
        due("stones(8, 0)", x.stones(8, 0), UNKNOWN);
        due("stones(-1, 5)", x.stones(-1, 5), UNKNOWN);
        due("stones(0, 3)", x.stones(0, 3), OUTSIDE);
        due("stones(0, -1)", x.stones(0, -1), OUTSIDE);
        due("stones(2, 0)", x.stones(2, 0), 3);
        due("stones(1, 2)", x.stones(1, 2), 1);
        due("stones(7, 2)", x.stones(7, 2), 1);
        x.hedge(6, 3);
        doDay(x, ".A>365");
        due("stones(6, 1)", x.stones(6, 1), 1);
        due("just thrown", x.stones(0, 2), 1);
        due("stones(7, 2)", x.stones(7, 2), 0);
    }

    private static void air() {
        StoneRound x = full();
        due("air(-1)", x.air(-1), 2);
        due("air(0)", x.air(0), 110);
        due("air(1)", x.air(1), 711);
        due("air(2)", x.air(2), NONE);
        due("air(-2)", x.air(-2), NONE);
        due("air(MAX)", x.air(MAX), NONE);
        due("air(MIN)", x.air(MIN), NONE);
        doDay(x, "A<012.");
        due("air(-1)", x.air(-1), 2);
        due("air(0)", x.air(0), 220);
        due("air(1)", x.air(1), 621);
        due("stones(7, 0)", x.stones(7, 0), 1);
        doDay(x, "A>361.");
        due("air(0)", x.air(0), 531);
        due("air(1)", x.air(1), 110);
    }

    private static void flight() {
        StoneRound x = full();
        due("flight(2, 9, ..)", x.flight(2, 9, 1, 1, 0), UNKNOWN);
        due("flight(0, 2, ..)", x.flight(0, 2, 1, 1, 0), OUTSIDE);
        due("flight(0, -1, ..)", x.flight(0, -1, 1, 1, 0), OUTSIDE);
        due("reach 0", x.flight(0, 0, 0, 1, 0), OUTSIDE);
        due("reach 37", x.flight(0, 0, 37, 1, 0), OUTSIDE);
        due("top 0", x.flight(0, 0, 1, 0, 0), OUTSIDE);
        due("top 6", x.flight(0, 0, 1, 6, 0), OUTSIDE);
        due("what 4", x.flight(0, 0, 1, 1, 4), OUTSIDE);
        due("what -1", x.flight(0, 0, 1, 1, -1), OUTSIDE);
        int[][] throwsOf = {{1, 0, 36, 1}, {1, 1, 36, 5}, {0, 1, 36, 5}, {0, 0, 2, 5}, {0, 0, 3, 5}, {0, 0, 36, 3}};
        int[][] ends = {{1, 2, 5, NONE}, {2, 35, 0, 0}, {1, 35, 5, NONE}, {0, 2, 2, NONE}, {0, 3, 3, NONE},
            {2, 35, 3, 1}};
        StoneRound y = new StoneRound();
        y.person(0, 0, 1, 0);
        due("the longest lies", y.flight(0, 0, 36, 5, 0), 0);
        due("behind 36 minutes", y.flight(0, 0, 36, 5, 1), 36);
        due("half round", y.flight(0, 0, 36, 5, 2), 4);
        due("by nobody", y.flight(0, 0, 36, 5, 3), NONE);
        for (int i = 0; i < throwsOf.length; i++) {
            int[] t = throwsOf[i];
            for (int what = 0; what < 4; what++) {
                due("flight " + i + " " + what, x.flight(t[0], t[1], t[2], t[3], what), ends[i][what]);
            }
        }
    }

    private static void gets() {
        StoneRound x = full();
        due("gets(2, 0, 0)", x.gets(2, 0, 0), UNKNOWN);
        due("gets(0, 2, 9)", x.gets(0, 2, 9), UNKNOWN);
        due("gets(0, 5, 0)", x.gets(0, 5, 0), UNKNOWN);
        due("gets(0, 1, 5)", x.gets(0, 1, 5), OUTSIDE);
        due("gets(0, 1, -1)", x.gets(0, 1, -1), OUTSIDE);
        StoneRound y = new StoneRound();
        y.person(0, 0, 4, 0);
        y.person(1, 3, 9, 0);
        due("how many", y.gets(0, 1, 0), 5);
        due("soonest", y.gets(0, 1, 1), 41);
        due("its minutes", y.gets(0, 1, 2), 3);
        due("nobody else", y.gets(0, 0, 0), 0);
        for (int what = 1; what <= 4; what++) {
            due("NONE", y.gets(0, 0, what), NONE);
        }
        // the soonest has a higher top than the softest: a hedge of 2 stands on the short way
        y.person(0, 0, 36, 0);
        y.hedge(2, 2);
        due("soonest", y.gets(0, 1, 1), 42);
        due("its minutes", y.gets(0, 1, 2), 3);
        due("softest", y.gets(0, 1, 3), 1061);
        due("its minutes", y.gets(0, 1, 4), 5);
        // as far on as back: the least WAY
        y.places(8);
        y.person(0, 0, 9, 0);
        y.person(1, 4, 9, 0);
        due("soonest", y.gets(0, 1, 1), 51);
        due("softest", y.gets(0, 1, 3), 51);
        y.hedge(2, 1);
        y.hedge(1, 2);
        due("soonest", y.gets(0, 1, 1), 1051);
    }

    private static void round() {
        StoneRound x = full();
        due("round(2)", x.round(2), UNKNOWN);
        due("round(-1)", x.round(-1), UNKNOWN);
        due("round(5)", x.round(5), UNKNOWN);
        for (int n = 4; n <= 9; n++) {
            StoneRound y = new StoneRound();
            y.places(n);
            y.person(3, n - 1, 1, 0);
            due("round(3) of " + n, y.round(3), n + 1);
            y.hedge(n - 1, 2);
            due("with a hedge of 2", y.round(3), n + 2);
            y.hedge(n - 1, 3);
            due("with a hedge of 3", y.round(3), NONE);
            y.hedge(n - 1, 0);
            y.hedge(0, 2);
            due("back, where on is a hedge", y.round(3), n + 1);
            y.hedge(n - 2, 2);
            due("hedges on both sides", y.round(3), NONE);
        }
        StoneRound y = new StoneRound();
        y.person(1, 0, 1, 0);
        y.person(0, 0, 1, 0);
        due("another one takes it", y.round(1), NONE);
        due("round(0)", y.round(0), 9);
    }

    private static void keptOff() {
        StoneRound x = full();
        due("keptOff(2, 0, 0)", x.keptOff(2, 0, 0), UNKNOWN);
        due("keptOff(0, 2, 5)", x.keptOff(0, 2, 5), UNKNOWN);
        due("keptOff(0, 1, 2)", x.keptOff(0, 1, 2), OUTSIDE);
        due("keptOff(0, 1, -1)", x.keptOff(0, 1, -1), OUTSIDE);
        StoneRound y = new StoneRound();
        y.person(0, 0, 3, 0);
        y.person(1, 3, 3, 0);
        due("out of reach", y.keptOff(0, 1, 0), 0);
        due("no place", y.keptOff(0, 1, 1), NONE);
        y.person(0, 0, 4, 0);
        due("keptOff(0, 1, 0)", y.keptOff(0, 1, 0), 2);
        due("keptOff(0, 1, 1)", y.keptOff(0, 1, 1), 1);
        y.hedge(1, 1);
        due("it grows on", y.keptOff(0, 1, 0), 2);
        due("keptOff(0, 1, 1)", y.keptOff(0, 1, 1), 1);
        y.person(0, 0, 36, 0);
        due("from both sides", y.keptOff(0, 1, 0), 3);
        due("where it is caught", y.keptOff(0, 1, 1), 3);
        y.hedge(3, 2);
        due("with a hedge there", y.keptOff(0, 1, 0), 3);
    }

    private static void laid() {
        StoneRound y = new StoneRound();
        due("nobody", y.laid(), 0);
        y.person(0, 0, 1, 0);
        due("nothing lies", y.laid(), NONE);
        y.lay(0, 1);
        due("at one's feet", y.laid(), 0);
        y.person(1, 7, 1, 0);
        due("too few", y.laid(), NONE);
        y.lay(3, 1);
        due("the nearer way", y.laid(), 4);
        y.lay(0, 2);
        due("two at one place", y.laid(), 1);
        y.person(2, 4, 1, 1);
        due("who has one stays", y.laid(), 1);
        y.places(9);
        y.person(0, 0, 1, 0);
        y.person(1, 1, 1, 0);
        y.lay(1, 1);
        y.lay(2, 1);
        due("not the nearest for each", y.laid(), 2);
        y.places(9);
        for (int person = 0; person < 5; person++) {
            y.person(person, person, 1, 0);
        }
        y.lay(4, 9);
        due("all to one place", y.laid(), 10);
        y.lay(4, 4);
        due("one too few", y.laid(), NONE);
        y.lay(8, 1);
        due("one from behind", y.laid(), 7);
    }

    private static void list() {
        StoneRound x = full();
        due("list(6, ..)", x.list(6, 0, 0, 1, 1, 0, 0), UNKNOWN);
        due("list(-1, ..)", x.list(-1, 0, 9, 1, 1, 0, 0), UNKNOWN);
        due("list(1, 2, ..)", x.list(1, 2, 0, 1, 1, 0, 0), UNKNOWN);
        int[][] bad = {{-1, 1, 1, 0, 0}, {2, 1, 1, 0, 0}, {0, 0, 1, 0, 0}, {0, 37, 1, 0, 0}, {0, 1, 0, 0, 0},
            {0, 1, 6, 0, 0}, {0, 1, 1, -1, 0}, {0, 1, 1, 100, 0}, {0, 1, 1, 0, -1}, {0, 1, 1, 0, 21}};
        for (int[] b : bad) {
            due("list", x.list(1, 0, b[0], b[1], b[2], b[3], b[4]), OUTSIDE);
            due("list", x.list(0, 0, b[0], b[1], b[2], b[3], b[4]), OUTSIDE);
        }
        due("list(5, ..)", x.list(5, 1, 1, 36, 5, 99, 20), 3);
        due("list(5, ..) anew", x.list(5, 1, 0, 36, 5, 99, 20), 3);
        due("told(4)", x.told(4), 49);
        StoneRound y = new StoneRound();
        y.person(0, 0, 1, 0);
        due("whatever the arm", y.list(0, 0, 0, 4, 1, 0, 0), 1);
        due("duck(1, 9, 0)", y.duck(1, 9, 0), 1);
        y.person(0, 4, 1, 0);
        due("its place is kept", y.duck(1, 9, 0), 1);
        y.leave(0);
        due("also when it leaves", y.duck(1, 9, 1), 1);
        y.person(1, 2, 1, 0);
        due("people as they are now", y.duck(3, 9, 0), 0);
        y.hedge(1, 2);
        due("hedges as they are now", y.duck(1, 9, 0), 0);
    }

    private static void strike() {
        StoneRound x = full();
        due("strike(1)", x.strike(1), UNKNOWN);
        due("strike(6)", x.strike(6), UNKNOWN);
        due("strike(-1)", x.strike(-1), UNKNOWN);
        due("strike(32)", x.strike(32), UNKNOWN);
        due("strike(4)", x.strike(4), 1);
        due("told(4)", x.told(4), 1);
        due("strike(4)", x.strike(4), UNKNOWN);
        due("strike(0)", x.strike(0), 0);
    }

    private static void meet() {
        StoneRound x = full();
        due("meet(0, 1)", x.meet(0, 1), UNKNOWN);
        due("meet(1, 0)", x.meet(1, 0), UNKNOWN);
        due("meet(0, 0)", x.meet(0, 0), UNKNOWN);
        due("meet(0, 6)", x.meet(0, 6), UNKNOWN);
        due("meet(-1, 0)", x.meet(-1, 0), UNKNOWN);
        StoneRound y = new StoneRound();
        y.person(0, 0, 1, 0);
        y.person(1, 4, 1, 0);
        y.list(0, 0, 0, 9, 5, 10, 0);
        y.list(1, 0, 0, 9, 5, 10, 0);
        due("side by side, not as they are thrown", y.meet(0, 1), 11);
        y.list(1, 0, 0, 9, 5, 11, 0);
        due("one behind the other", y.meet(0, 1), NONE);
        y.list(1, 0, 0, 9, 5, 0, 10);
        due("the second of one", y.meet(0, 1), 11);
        due("the second of one", y.meet(1, 0), 11);
        y.list(1, 0, 0, 9, 5, 11, 10);
        due("too late", y.meet(0, 1), NONE);
        y.list(0, 0, 0, 2, 1, 0, 20);
        y.list(1, 0, 0, 2, 1, 99, 19);
        due("by remainders", y.meet(0, 1), 461);
        y.list(1, 0, 0, 2, 1, 99, 20);
        due("never", y.meet(0, 1), NONE);
        y.list(0, 0, 0, 2, 1, 0, 1);
        y.list(1, 0, 0, 2, 1, 5, 1);
        due("each minute", y.meet(0, 1), 6);
        due("each minute", y.meet(1, 0), 6);
        y.list(1, 0, 0, 2, 1, 7, 0);
        due("each minute and once", y.meet(0, 1), 8);
        due("once and each minute", y.meet(1, 0), 8);
        y.list(0, 0, 0, 5, 1, 0, 0);
        y.list(1, 1, 1, 2, 1, 2, 0);
        due("at the last minute it flies", y.meet(0, 1), 3);
        y.person(2, 3, 1, 0);
        due("caught there, it does not meet", y.meet(0, 1), NONE);
        y.leave(2);
        y.hedge(3, 2);
        due("in a hedge there, neither", y.meet(0, 1), NONE);
    }

    private static void forbidden() {
        StoneRound x = full();
        due("forbidden(2)", x.forbidden(2), OUTSIDE);
        due("forbidden(-1)", x.forbidden(-1), OUTSIDE);
        StoneRound y = new StoneRound();
        y.person(0, 0, 1, 0);
        due("none listed", y.forbidden(0), 0);
        due("none listed", y.forbidden(1), 0);
        for (int i = 0; i < 6; i++) {
            y.list(i, 0, 0, 9, 5, i < 3 ? 0 : 50, 0);
        }
        due("two of each three", y.forbidden(0), 4);
        due("the least", y.forbidden(1), 1 + 2 + 8 + 16);
        y.list(5, 0, 0, 9, 5, 99, 0);
        due("forbidden(0)", y.forbidden(0), 3);
        due("forbidden(1)", y.forbidden(1), 1 + 2 + 8);
        y.strike(0);
        due("forbidden(1)", y.forbidden(1), 2 + 8);
        // one that meets all the others
        y.list(0, 0, 1, 9, 5, 30, 0);
        y.list(1, 0, 0, 9, 5, 0, 0);
        y.list(2, 0, 0, 9, 5, 1, 0);
        y.list(3, 0, 0, 9, 5, 2, 0);
        y.list(4, 0, 0, 9, 5, 0, 1);
        y.list(5, 0, 1, 9, 5, 70, 0);
        due("forbidden(0)", y.forbidden(0), 1);
        due("forbidden(1)", y.forbidden(1), 16);
    }

    private static void duck() {
        StoneRound x = full();
        due("duck(8, 1, 0)", x.duck(8, 1, 0), UNKNOWN);
        due("duck(-1, 0, 0)", x.duck(-1, 0, 0), UNKNOWN);
        due("duck(0, 0, 0)", x.duck(0, 0, 0), OUTSIDE);
        due("duck(0, 1000, 0)", x.duck(0, 1000, 0), OUTSIDE);
        due("duck(0, 1, 2)", x.duck(0, 1, 2), OUTSIDE);
        due("duck(0, 1, -1)", x.duck(0, 1, -1), OUTSIDE);
        StoneRound y = new StoneRound();
        y.person(0, 0, 1, 0);
        due("none listed", y.duck(0, 999, 0), 0);
        due("none listed", y.duck(0, 999, 1), NONE);
        y.list(0, 0, 0, 4, 5, 0, 0);
        due("one minute", y.duck(1, 1, 0), 1);
        due("the first is the last", y.duck(1, 1, 1), 1);
        y.list(0, 0, 0, 36, 1, 99, 0);
        due("once, then one catches it oneself", y.duck(3, 134, 0), 1);
        due("just behind the last", y.duck(3, 101, 1), NONE);
        due("just the last", y.duck(3, 102, 1), 102);
        y.list(0, 0, 0, 4, 5, 0, 1);
        due("each minute", y.duck(1, 999, 0), 999);
        due("from the second on", y.duck(2, 999, 0), 998);
        due("the first", y.duck(2, 999, 1), 2);
        due("from the third on", y.duck(3, 999, 1), 3);
        due("not on the ground", y.duck(4, 999, 0), 0);
        due("not as it is thrown", y.duck(0, 999, 0), 0);
        due("no more than m", y.duck(3, 2, 0), 0);
        due("no more than m", y.duck(3, 2, 1), NONE);
        y.person(1, 2, 1, 0);
        due("caught just then", y.duck(2, 100, 0), 99);
        due("caught ahead", y.duck(3, 100, 0), 0);
        y.hedge(2, 3);
        due("in a hedge", y.duck(2, 100, 0), 0);
        y.hedge(2, 0);
        y.leave(1);
        y.list(0, 0, 0, 8, 5, 0, 0);
        due("too high", y.duck(4, 100, 0), 0);
        due("but once", y.duck(7, 100, 0), 1);
        y.list(1, 0, 0, 8, 5, 3, 20);
        due("two listed ones", y.duck(7, 100, 0), 6);
        due("the first", y.duck(7, 100, 1), 7);
        y.list(1, 0, 0, 8, 5, 0, 0);
        due("a minute counts once", y.duck(7, 100, 0), 1);
    }

    private static void hands() {
        StoneRound x = full();
        due("hands(2)", x.hands(2), OUTSIDE);
        due("hands(-1)", x.hands(-1), OUTSIDE);
        StoneRound y = new StoneRound();
        y.person(0, 0, 1, 0);
        due("none listed", y.hands(0), 0);
        due("none listed", y.hands(1), 0);
        y.list(0, 0, 0, 8, 5, 0, 0);
        due("one", y.hands(0), 1);
        due("the least", y.hands(1), 2);
        y.list(1, 0, 1, 4, 1, 0, 0);
        due("not both ways at 1", y.hands(1), 64);
        y.list(1, 0, 1, 3, 1, 0, 0);
        due("6 is low in both", y.hands(1), 64);
        y.list(1, 0, 1, 2, 1, 0, 0);
        due("7 is low in both", y.hands(1), 128);
        y.hedge(7, 2);
        due("no more", y.hands(0), NONE);
        due("no more", y.hands(1), NONE);
        y.strike(1);
        y.person(1, 2, 1, 0);
        y.hedge(1, 1);
        due("people do not catch", y.hands(1), 2);
        y.list(1, 1, 0, 2, 1, 0, 0);
        due("two hands", y.hands(0), 2);
        due("two hands", y.hands(1), 2 + 8);
        y.list(2, 0, 0, 1, 1, 0, 0);
        due("too short to be caught", y.hands(0), NONE);
    }

    private static void seen() {
        StoneRound x = full();
        due("seen(0, 8, 1)", x.seen(0, 8, 1), UNKNOWN);
        due("seen(37, -1, 1)", x.seen(37, -1, 1), UNKNOWN);
        due("seen(37, 0, 1)", x.seen(37, 0, 1), OUTSIDE);
        due("seen(-1, 0, 1)", x.seen(-1, 0, 1), OUTSIDE);
        due("seen(0, 0, 0)", x.seen(0, 0, 0), OUTSIDE);
        due("seen(0, 0, 6)", x.seen(0, 0, 6), OUTSIDE);
        for (int i = 2; i <= 6; i++) {
            due("seen(36, 7, 5)", x.seen(36, 7, 5), i);
        }
        due("seen(0, 0, 1) at 6", x.seen(0, 0, 1), FULL);
        due("seen(0, 0, 0) at 6", x.seen(0, 0, 0), OUTSIDE);
        due("seen(0, 8, 1) at 6", x.seen(0, 8, 1), UNKNOWN);
        due("told(5)", x.told(5), 6);
    }

    private static void forget() {
        StoneRound x = full();
        due("forget()", x.forget(), 1);
        due("forget()", x.forget(), 0);
        due("told(5)", x.told(5), 0);
        due("seen(0, 0, 1)", x.seen(0, 0, 1), 1);
    }

    private static void who() {
        StoneRound x = full();
        due("who(2)", x.who(2), OUTSIDE);
        due("who(-1)", x.who(-1), OUTSIDE);
        StoneRound y = new StoneRound();
        due("nobody", y.who(0), 0);
        due("nobody", y.who(1), 0);
        y.person(1, 0, 3, 0);
        y.person(4, 2, 10, 9);
        due("no sight: all", y.who(0), 18);
        due("no sight: all", y.who(1), 130);
        y.seen(1, 1, 1);
        due("from both sides", y.who(0), 18);
        due("from both sides", y.who(1), 2 * 5 + 9 * 5);
        y.seen(2, 2, 1);
        due("it comes to E, 1 high", y.who(0), 2);
        due("caught behind that minute, not ahead", y.who(1), 5);
        y.seen(3, 3, 1);
        due("caught ahead of it", y.who(0), 0);
        due("caught ahead of it", y.who(1), 0);
        y.forget();
        y.seen(0, 0, 1);
        due("1 high as it is thrown: none", y.who(1), 0);
        y.forget();
        y.seen(3, 5, 2);
        y.seen(1, 3, 1);
        y.seen(5, 7, 1);
        due("from 2 on, REACH 6, TOP 2", y.who(1), 1);
        y.seen(4, 6, 2);
        y.seen(2, 4, 2);
        y.person(4, 2, 6, 9);
        due("all on one way", y.who(1), 1);
        y.forget();
        y.seen(5, 7, 5);
        y.person(4, 2, 10, 9);
        due("one throw", y.who(1), 1);
        due("of one", y.who(0), 16);
        y.forget();
        y.hedge(1, 2);
        y.seen(1, 1, 1);
        due("in the hedge behind that minute", y.who(1), 2 * 5 + 9 * 5);
        y.seen(2, 0, 2);
        due("not behind the hedge", y.who(1), 0);
    }

    private static void slips() {
        StoneRound x = full();
        due("slips(2, ..)", x.slips(2, 0, 0, 1, 1, 0, 0), LOST + UNKNOWN);
        due("slips(0, 2, ..)", x.slips(0, 2, 5, 1, 1, 0, 0), LOST + UNKNOWN);
        int[][] bad = {{-1, 1, 1, 0, 0}, {2, 1, 1, 0, 0}, {0, 0, 1, 0, 0}, {0, 37, 1, 0, 0}, {0, 1, 0, 0, 0},
            {0, 1, 6, 0, 0}, {0, 1, 1, -1, 0}, {0, 1, 1, 6, 0}, {0, 1, 1, 0, -1}, {0, 1, 1, 0, 2}};
        for (int[] b : bad) {
            due("slips", x.slips(0, 1, b[0], b[1], b[2], b[3], b[4]), LOST + OUTSIDE);
        }
        StoneRound y = new StoneRound();
        y.person(0, 0, 1, 0);
        y.person(1, 3, 1, 0);
        // at 3, top 5: REACH 4 is 1 high, 5 is 2 high, 6 is 3 high and passes
        int[][] cases = {{3, 1, 1, 10}, {3, 5, 1, 2}, {4, 1, 9, 10}, {4, 5, 1, 2}, {5, 2, 4, 5}, {6, 3, 3, 10},
            {7, 3, 0, 1}, {4, 0, 1, 1}, {3, 0, 0, 1}, {6, 0, 0, 1}};
        for (int[] c : cases) {
            due("slips, REACH " + c[0], y.slips(0, 1, 0, c[0], 5, c[1], 0), c[2]);
            due("slips, REACH " + c[0], y.slips(0, 1, 0, c[0], 5, c[1], 1), c[3]);
        }
        y.person(1, 1, 1, 0);
        due("0 is as 1", y.slips(0, 1, 0, 1, 1, 4, 0), 2);
        due("0 is as 1", y.slips(0, 1, 0, 1, 1, 4, 1), 5);
        y.places(5);
        y.person(0, 0, 1, 0);
        due("37 is as 36", y.slips(0, 0, 0, 36, 5, 3, 0), 7);
        due("37 is as 36", y.slips(0, 0, 0, 36, 5, 3, 1), 10);
        due("one's own", y.slips(0, 0, 0, 6, 5, 1, 0), 9);
    }

    private static void year() {
        StoneRound x = full();
        due("year(-1, 1, 0)", x.year(-1, 1, 0), OUTSIDE);
        due("year(10000, 1, 0)", x.year(10000, 1, 0), OUTSIDE);
        due("year(0, 0, 0)", x.year(0, 0, 0), OUTSIDE);
        due("year(0, 100, 0)", x.year(0, 100, 0), OUTSIDE);
        due("year(0, 1, 3)", x.year(0, 1, 3), OUTSIDE);
        due("year(0, 1, -1)", x.year(0, 1, -1), OUTSIDE);
        due("year(9999, 99, 0)", x.year(9999, 99, 0) >= 0 ? 1 : 0, 1);
        StoneRound y = new StoneRound();
        // seed 0: x is 74: PERSON 4, 14 is even: on, 7 left over by ARM 5 and 1: REACH 3, TOP 1
        y.person(4, 0, 5, 1);
        y.person(0, 1, 1, 0);
        due("throws", y.year(0, 1, 0), 1);
        due("caught by A", y.year(0, 1, 1), 1);
        due("lost", y.year(0, 1, 2), 0);
        y.leave(0);
        y.hedge(1, 2);
        due("caught", y.year(0, 1, 1), 0);
        due("lost", y.year(0, 1, 2), 1);
        y.hedge(1, 1);
        due("lost", y.year(0, 1, 2), 0);
        y.person(4, 0, 5, 0);
        due("nothing in hand", y.year(0, 1, 0), 0);
        y.person(4, 0, 5, 2);
        y.hedge(1, 2);
        doDay(y, "E>055.");
        y.hedge(1, 0);
        due("those of ahead, too", y.year(0, 99, 2), 1);
        due("nothing is done in fact", y.state(4, 1), 1);
        // seed 1: x is 149: PERSON 4, 29 is odd: back, 14 left over by 5 and 1: REACH 5, TOP 2
        y.places(4);
        y.person(4, 0, 5, 1);
        y.hedge(3, 2);
        due("back, into the hedge", y.year(1, 1, 2), 1);
        // seed 1, second minute: x is 11249: PERSON 4, 2249 is odd, 1124 by 5: REACH 5, 112 by 5: TOP 3
        y.hedge(3, 0);
        y.person(4, 0, 5, 2);
        due("one throw a minute", y.year(1, 2, 0), 2);
        due("no more than m", y.year(1, 1, 0), 1);
        due("come round, each of them", y.year(1, 5, 1), 2);
        due("the first alone", y.year(1, 4, 1), 1);
        StoneRound z = new StoneRound();
        z.person(0, 0, 36, 5);
        doDay(z, "A>105.......");
        due("from all as it is", z.year(0, 1, 1), 1);
    }

    private static void image() {
        StoneRound x = full();
        due("image(2)", x.image(2), OUTSIDE);
        due("image(-1)", x.image(-1), OUTSIDE);
        due("image(0)", x.image(0), 1);
        due("restore(1)", x.restore(1), STATE);
        x.image(1);
        x.hedge(0, 4);
        due("image(0)", x.image(0), 1);
        due("restore(1)", x.restore(1), 1);
        due("told(10)", x.told(10), 0);
        due("restore(0)", x.restore(0), 1);
        due("told(10)", x.told(10), 4);
    }

    private static void restore() {
        StoneRound x = full();
        String before = all(x);
        due("restore(2)", x.restore(2), OUTSIDE);
        due("restore(-1)", x.restore(-1), OUTSIDE);
        due("restore(0)", x.restore(0), STATE);
        due("restore(1)", x.restore(1), STATE);
        x.image(1);
        x.places(5);
        x.person(0, 4, 1, 1);
        x.person(3, 4, 1, 1);
        x.lay(1, 7);
        x.list(0, 0, 0, 2, 2, 2, 2);
        x.list(3, 3, 1, 2, 2, 2, 2);
        x.seen(1, 1, 1);
        x.seen(1, 1, 2);
        doDay(x, "A>011.D<011");
        say(x, "A>");
        due("restore(1)", x.restore(1), 1);
        same(x, before, "told(1)", x.told(1), 8);
        x.wipe();
        x.say('.');
        due("restore(1) again", x.restore(1), 1);
        due("the pad is not restored", x.told(0), 1);
        x.done();
        due("restore(1) behind a day", x.restore(1), 1);
        say(x, "A>");
        same(x, before, "told(3)", x.told(3), 2);
    }

    private static void told() {
        StoneRound x = full();
        int[] due = {2, 8, 3, 2, 17, 1, OUTSIDE, OUTSIDE, OUTSIDE, OUTSIDE, 0, 0, 0, 0, 0, 2, 0, 0, OUTSIDE, OUTSIDE,
            36, 9, OUTSIDE, OUTSIDE, OUTSIDE, OUTSIDE};
        for (int what = 0; what < due.length; what++) {
            due("told(" + what + ")", x.told(what), due[what]);
        }
        for (int what : new int[] {-1, MIN, MAX, 26, 52, 30}) {
            due("told(" + what + ")", x.told(what), OUTSIDE);
        }
        x.places(4);
        due("told(13)", x.told(13), 0);
        due("told(14)", x.told(14), OUTSIDE);
        x.places(9);
        due("told(18)", x.told(18), 0);
        due("told(19)", x.told(19), OUTSIDE);
    }

    private static void run(int number) {
        promise = number;
        switch (number) {
            case 1 -> newObject();
            case 2 -> places();
            case 3 -> hedge();
            case 4 -> lay();
            case 5 -> person();
            case 6 -> leave();
            case 7 -> say();
            case 8 -> wipe();
            case 9 -> fault();
            case 10 -> judge();
            case 11 -> {
                done();
                minutes();
            }
            case 12 -> state();
            case 13 -> behind();
            case 14 -> stones();
            case 15 -> air();
            case 16 -> flight();
            case 17 -> gets();
            default -> runLater(number);
        }
    }

    private static void runLater(int number) {
        switch (number) {
            case 18 -> round();
            case 19 -> keptOff();
            case 20 -> laid();
            case 21 -> list();
            case 22 -> strike();
            case 23 -> meet();
            case 24 -> forbidden();
            case 25 -> duck();
            case 26 -> hands();
            case 27 -> seen();
            case 28 -> forget();
            case 29 -> who();
            case 30 -> slips();
            case 31 -> year();
            case 32 -> image();
            case 33 -> restore();
            default -> told();
        }
    }

    public static void main(String[] args) {
        for (int number = 1; number <= 34; number++) {
            run(number);
        }
        System.out.println(wrong == 0 ? checks + " answers are as due" : wrong + " answers are not as due");
        if (wrong != 0) {
            System.exit(1);
        }
    }
}
