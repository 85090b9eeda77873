import java.util.ArrayList;
import java.util.List;
import java.util.Random;

/**
 * Random runs of calls, each answered by the class and by a slow model that follows the
 * document's words: minute by minute, throw by throw, set by set.
 */
public final class NaiveModelTest {
    private static final int NONE = -6, UNKNOWN = -1, OUTSIDE = -2, STATE = -3, FULL = -4, NO = -5;
    private static final long LOST = -1000000000000000000L;

    static final class Stone {
        int start, way, reach, top, k;

        Stone(int start, int way, int reach, int top) {
            this.start = start;
            this.way = way;
            this.reach = reach;
            this.top = top;
        }

        int place(int n) {
            return Math.floorMod(way == 0 ? start + k : start - k, n);
        }

        int high() {
            return Math.min(k, Math.min(reach - k, top));
        }

        Stone copy() {
            Stone s = new Stone(start, way, reach, top);
            s.k = k;
            return s;
        }
    }

    static final class Someone {
        int place, arm, stones, caught;

        Someone copy() {
            Someone p = new Someone();
            p.place = place;
            p.arm = arm;
            p.stones = stones;
            p.caught = caught;
            return p;
        }
    }

    record Listed(int place, int way, int reach, int top, int at, int each) { }

    record Sight(int k, int place, int high) { }

    /** How a throw ends, found by minutes of a world of its own. */
    record End(int how, int minutes, int place, int by) { }

    static final class World {
        int n = 8;
        int[] hedge = new int[9], lie = new int[9], lost = new int[9];
        Someone[] people = new Someone[5];
        List<Stone> air = new ArrayList<>();
        Listed[] listed = new Listed[6];
        List<Sight> sights = new ArrayList<>();

        World copy() {
            World w = new World();
            w.n = n;
            w.hedge = hedge.clone();
            w.lie = lie.clone();
            w.lost = lost.clone();
            for (int i = 0; i < 5; i++) {
                w.people[i] = people[i] == null ? null : people[i].copy();
            }
            for (Stone s : air) {
                w.air.add(s.copy());
            }
            w.listed = listed.clone();
            w.sights = new ArrayList<>(sights);
            return w;
        }

        int minute() {
            int caught = 0;
            List<Stone> still = new ArrayList<>();
            for (Stone s : air) {
                s.k++;
                int place = s.place(n);
                if (hedge[place] > s.high()) {
                    lost[place]++;
                    continue;
                }
                Someone hand = null;
                for (int i = 4; i >= 0; i--) {
                    if (people[i] != null && people[i].place == place) {
                        hand = people[i];
                    }
                }
                if (hand != null && (s.high() == 1 || s.high() == 2)) {
                    hand.stones++;
                    hand.caught++;
                    caught++;
                    continue;
                }
                still.add(s);
            }
            air = new ArrayList<>();
            for (Stone s : still) {
                boolean falls = s.high() == 0;
                for (Stone t : still) {
                    falls |= t != s && t.place(n) == s.place(n) && t.high() == s.high();
                }
                if (falls) {
                    lie[s.place(n)]++;
                } else {
                    air.add(s);
                }
            }
            return caught;
        }

        End fly(int from, int way, int reach, int top) {
            World w = copy();
            w.air.clear();
            w.lost = new int[9];
            w.lie = new int[9];
            for (Someone p : w.people) {
                if (p != null) {
                    p.caught = 0;
                }
            }
            w.air.add(new Stone(from, way, reach, top));
            int minutes = 0;
            while (!w.air.isEmpty()) {
                w.minute();
                minutes++;
            }
            for (int p = 0; p < n; p++) {
                if (w.lie[p] > 0) {
                    return new End(0, minutes, p, NONE);
                }
                if (w.lost[p] > 0) {
                    return new End(1, minutes, p, NONE);
                }
            }
            for (int i = 0; i < 5; i++) {
                if (w.people[i] != null && w.people[i].caught > 0) {
                    return new End(2, minutes, w.people[i].place, i);
                }
            }
            throw new IllegalStateException("a stone went nowhere");
        }
    }

    private World w = new World();
    private final World[] images = new World[2];
    private String pad = "";

    private boolean there(int p) {
        return p >= 0 && p <= 4 && w.people[p] != null;
    }

    private boolean place(int p) {
        return p >= 0 && p < w.n;
    }

    private int count() {
        int c = 0;
        for (Someone p : w.people) {
            c += p != null ? 1 : 0;
        }
        return c;
    }

    private static boolean in(int x, int a, int b) {
        return a <= x && x <= b;
    }

    private static final String EVENT = "\\.|[A-E](\\+|o|k|[<>](0[1-9]|[12][0-9]|3[0-6])[1-5])";

    private int fault() {
        String rest = pad;
        for (int i = 0; i <= pad.length(); i++) {
            if (!canBegin(pad.substring(0, i))) {
                return i - 1;
            }
        }
        return rest.matches("(" + EVENT + ")*") ? NONE : pad.length();
    }

    /** Whether a text may still become a day by more signs. */
    private static boolean canBegin(String text) {
        for (String more : new String[] {"", "+", ">011", "011", "11", "1"}) {
            if ((text + more).matches("(" + EVENT + ")*")) {
                return true;
            }
        }
        return false;
    }

    private int at, why, events;

    private World day() {
        World d = w.copy();
        String rest = pad;
        at = 0;
        why = 0;
        events = 0;
        while (!rest.isEmpty()) {
            if (rest.charAt(0) == '.') {
                d.minute();
                rest = rest.substring(1);
            } else {
                Someone p = d.people[rest.charAt(0) - 'A'];
                char act = rest.charAt(1);
                if (p == null) {
                    why = 1;
                    return null;
                }
                if (act == '+') {
                    if (d.lie[p.place] == 0) {
                        why = 5;
                        return null;
                    }
                    d.lie[p.place]--;
                    p.stones++;
                    rest = rest.substring(2);
                } else if (act == 'o' || act == 'k') {
                    p.place = Math.floorMod(p.place + (act == 'o' ? 1 : -1), d.n);
                    rest = rest.substring(2);
                } else {
                    int reach = Integer.parseInt(rest.substring(2, 4));
                    int top = rest.charAt(4) - '0';
                    why = p.stones == 0 ? 2 : reach > p.arm ? 3 : d.air.size() == 12 ? 4 : 0;
                    if (why != 0) {
                        return null;
                    }
                    p.stones--;
                    d.air.add(new Stone(p.place, act == '>' ? 0 : 1, reach, top));
                    rest = rest.substring(5);
                }
            }
            events++;
            at = events;
        }
        return d;
    }

    private int gets(int person, int other, int what) {
        int many = 0;
        int[] soon = null;
        int[] soft = null;
        Someone p = w.people[person];
        for (int way = 0; way < 2; way++) {
            for (int reach = 1; reach <= p.arm; reach++) {
                for (int top = 1; top <= 5; top++) {
                    End e = w.fly(p.place, way, reach, top);
                    if (e.how != 2 || e.by != other) {
                        continue;
                    }
                    many++;
                    int told = 1000 * way + 10 * reach + top;
                    int[] a = {e.minutes, top, reach, way, told};
                    int[] b = {top, e.minutes, reach, way, told};
                    soon = soon == null || before(a, soon) ? a : soon;
                    soft = soft == null || before(b, soft) ? b : soft;
                }
            }
        }
        if (what == 0) {
            return many;
        }
        if (many == 0) {
            return NONE;
        }
        return what == 1 ? soon[4] : what == 2 ? soon[0] : what == 3 ? soft[4] : soft[1];
    }

    private static boolean before(int[] a, int[] b) {
        for (int i = 0; i < a.length; i++) {
            if (a[i] != b[i]) {
                return a[i] < b[i];
            }
        }
        return false;
    }

    private int round(int person) {
        for (int reach = 1; reach <= 36; reach++) {
            for (int x = 0; x < 10; x++) {
                End e = w.fly(w.people[person].place, x % 2, reach, x / 2 + 1);
                if (e.how == 2 && e.by == person && e.minutes == w.n) {
                    return reach;
                }
            }
        }
        return NONE;
    }

    private int keptOff(int person, int other, int what) {
        if (gets(person, other, 0) == 0) {
            return what == 0 ? 0 : NONE;
        }
        for (int h = 1; h <= 5; h++) {
            for (int p = 0; p < w.n; p++) {
                int was = w.hedge[p];
                w.hedge[p] = Math.max(was, h);
                boolean off = gets(person, other, 0) == 0;
                w.hedge[p] = was;
                if (off) {
                    return what == 0 ? h : p;
                }
            }
        }
        return NONE;
    }

    private int laid(int person, int[] left) {
        if (person == 5) {
            return 0;
        }
        if (w.people[person] == null || w.people[person].stones > 0) {
            return laid(person + 1, left);
        }
        int best = NONE;
        for (int p = 0; p < w.n; p++) {
            if (left[p] > 0) {
                left[p]--;
                int more = laid(person + 1, left);
                left[p]++;
                int d = Math.min(Math.floorMod(p - w.people[person].place, w.n),
                        Math.floorMod(w.people[person].place - p, w.n));
                if (more != NONE && (best == NONE || more + d < best)) {
                    best = more + d;
                }
            }
        }
        return best;
    }

    /** The stones of a listed throw that are in the air behind a minute, as 10 place + high. */
    private List<Integer> up(Listed l, End e, int minute, boolean alsoCaught) {
        List<Integer> found = new ArrayList<>();
        for (int k = 1; k <= e.minutes; k++) {
            int t = minute - k - l.at;
            boolean thrown = t == 0 || l.each > 0 && t > 0 && t % l.each == 0;
            if (thrown && (k < e.minutes || alsoCaught && e.how == 2)) {
                Stone s = new Stone(l.place, l.way, l.reach, l.top);
                s.k = k;
                found.add(10 * s.place(w.n) + s.high());
            }
        }
        return found;
    }

    private End end(Listed l) {
        return w.fly(l.place, l.way, l.reach, l.top);
    }

    private int meet(int i, int j) {
        End a = end(w.listed[i]);
        End b = end(w.listed[j]);
        for (int minute = 0; minute <= 1000; minute++) {
            List<Integer> x = up(w.listed[i], a, minute, false);
            x.retainAll(up(w.listed[j], b, minute, false));
            if (!x.isEmpty()) {
                return minute;
            }
        }
        return NONE;
    }

    private int forbidden() {
        boolean[][] meets = new boolean[6][6];
        for (int i = 0; i < 6; i++) {
            for (int j = 0; j < i; j++) {
                meets[i][j] = w.listed[i] != null && w.listed[j] != null && meet(i, j) != NONE;
            }
        }
        for (int many = 0; many <= 6; many++) {
            for (int set = 0; set < 64; set++) {
                boolean good = Integer.bitCount(set) == many;
                for (int i = 0; i < 6; i++) {
                    good &= (set >> i & 1) == 0 || w.listed[i] != null;
                    for (int j = 0; j < i; j++) {
                        good &= !meets[i][j] || (set >> i & 1) != 0 || (set >> j & 1) != 0;
                    }
                }
                if (good) {
                    return set;
                }
            }
        }
        throw new IllegalStateException();
    }

    private int duck(int place, int m, int what) {
        int many = 0;
        int first = NONE;
        End[] ends = new End[6];
        for (int i = 0; i < 6; i++) {
            ends[i] = w.listed[i] == null ? null : end(w.listed[i]);
        }
        for (int minute = m; minute >= 1; minute--) {
            boolean low = false;
            for (int i = 0; i < 6; i++) {
                if (w.listed[i] != null) {
                    List<Integer> x = up(w.listed[i], ends[i], minute, true);
                    low |= x.contains(10 * place + 1) || x.contains(10 * place + 2);
                }
            }
            many += low ? 1 : 0;
            first = low ? minute : first;
        }
        return what == 0 ? many : first;
    }

    private int hands() {
        for (int many = 0; many <= w.n; many++) {
            for (int set = 0; set < 1 << w.n; set++) {
                if (Integer.bitCount(set) == many && caughtByHands(set)) {
                    return set;
                }
            }
        }
        return NONE;
    }

    private boolean caughtByHands(int set) {
        for (Listed l : w.listed) {
            boolean caught = l == null;
            if (l != null) {
                Stone s = new Stone(l.place, l.way, l.reach, l.top);
                for (s.k = 1; s.k <= l.reach && !caught; s.k++) {
                    if (w.hedge[s.place(w.n)] > s.high()) {
                        break;
                    }
                    caught = in(s.high(), 1, 2) && (set >> s.place(w.n) & 1) != 0;
                }
            }
            if (!caught) {
                return false;
            }
        }
        return true;
    }

    private int who(int what) {
        int bits = 0;
        int many = 0;
        for (int p = 0; p < 5; p++) {
            for (int x = 0; w.people[p] != null && x < 10 * w.people[p].arm; x++) {
                int way = x % 2;
                int top = x / 2 % 5 + 1;
                int reach = x / 10 + 1;
                End e = w.fly(w.people[p].place, way, reach, top);
                boolean good = true;
                for (Sight s : w.sights) {
                    Stone stone = new Stone(w.people[p].place, way, reach, top);
                    stone.k = s.k;
                    good &= e.minutes >= s.k && stone.place(w.n) == s.place && stone.high() == s.high;
                }
                if (good) {
                    bits |= 1 << p;
                    many++;
                }
            }
        }
        return what == 0 ? bits : many;
    }

    private long slips(int[] a) {
        int upper = 0;
        for (int tenth = 0; tenth < 10; tenth++) {
            int reach = a[3] + (tenth < a[5] ? -1 : tenth >= 10 - a[5] ? 1 : 0);
            reach = Math.max(1, Math.min(36, reach));
            End e = w.fly(w.people[a[0]].place, a[2], reach, a[4]);
            upper += e.how == 2 && e.by == a[1] ? 1 : 0;
        }
        int g = java.math.BigInteger.valueOf(upper).gcd(java.math.BigInteger.TEN).intValue();
        return a[6] == 0 ? upper / g : 10 / g;
    }

    private int year(int seed, int m, int what) {
        World y = w.copy();
        int thrown = 0;
        int caught = 0;
        long x = seed;
        for (int i = 0; i < m; i++) {
            x = (75 * x + 74) % 65537;
            Someone p = y.people[(int) (x % 5)];
            if (p != null && p.stones > 0 && y.air.size() < 12) {
                p.stones--;
                thrown++;
                y.air.add(new Stone(p.place, x / 5 % 2 == 0 ? 0 : 1, (int) (x / 10 % p.arm) + 1,
                        (int) (x / 100 % 5) + 1));
            }
            caught += y.minute();
        }
        int lost = 0;
        for (int l : y.lost) {
            lost += l;
        }
        return what == 0 ? thrown : what == 1 ? caught : lost;
    }

    static final String[] CALLS = {"places", "hedge", "lay", "person", "leave", "say", "wipe", "fault",
        "judge", "done", "state", "behind", "stones", "air", "flight", "gets", "round", "keptOff", "laid",
        "list", "strike", "meet", "forbidden", "duck", "hands", "seen", "forget", "who", "slips", "year",
        "image", "restore", "told"};
    static final int[] ARITY = {1, 2, 2, 4, 1, 1, 0, 0, 1, 0, 2, 2, 2, 1, 5, 3, 1, 3, 0, 7, 1, 2, 1, 3, 1,
        3, 0, 1, 7, 3, 1, 1, 1};

    static long ask(StoneRound s, int call, int[] a) {
        return switch (CALLS[call]) {
            case "places" -> s.places(a[0]);
            case "hedge" -> s.hedge(a[0], a[1]);
            case "lay" -> s.lay(a[0], a[1]);
            case "person" -> s.person(a[0], a[1], a[2], a[3]);
            case "leave" -> s.leave(a[0]);
            case "say" -> s.say(a[0]);
            case "wipe" -> s.wipe();
            case "fault" -> s.fault();
            case "judge" -> s.judge(a[0]);
            case "done" -> s.done();
            case "state" -> s.state(a[0], a[1]);
            case "behind" -> s.behind(a[0], a[1]);
            case "stones" -> s.stones(a[0], a[1]);
            case "air" -> s.air(a[0]);
            case "flight" -> s.flight(a[0], a[1], a[2], a[3], a[4]);
            case "gets" -> s.gets(a[0], a[1], a[2]);
            case "round" -> s.round(a[0]);
            case "keptOff" -> s.keptOff(a[0], a[1], a[2]);
            case "laid" -> s.laid();
            case "list" -> s.list(a[0], a[1], a[2], a[3], a[4], a[5], a[6]);
            case "strike" -> s.strike(a[0]);
            case "meet" -> s.meet(a[0], a[1]);
            case "forbidden" -> s.forbidden(a[0]);
            case "duck" -> s.duck(a[0], a[1], a[2]);
            case "hands" -> s.hands(a[0]);
            case "seen" -> s.seen(a[0], a[1], a[2]);
            case "forget" -> s.forget();
            case "who" -> s.who(a[0]);
            case "slips" -> s.slips(a[0], a[1], a[2], a[3], a[4], a[5], a[6]);
            case "year" -> s.year(a[0], a[1], a[2]);
            case "image" -> s.image(a[0]);
            case "restore" -> s.restore(a[0]);
            default -> s.told(a[0]);
        };
    }

    private boolean isThrow(int way, int reach, int top) {
        return in(way, 0, 1) && in(reach, 1, 36) && in(top, 1, 5);
    }

    private int bits(Object[] row) {
        int b = 0;
        for (int i = 0; i < row.length; i++) {
            b |= row[i] != null ? 1 << i : 0;
        }
        return b;
    }

    private long answer(int call, int[] a) {
        return call < 14 ? answerDays(CALLS[call], a) : answerThrows(CALLS[call], a);
    }

    private long answerDays(String call, int[] a) {
        switch (call) {
            case "places": {
                if (!in(a[0], 4, 9)) {
                    return OUTSIDE;
                }
                int was = w.n;
                w = new World();
                w.n = a[0];
                return was;
            }
            case "hedge":
            case "lay": {
                boolean hedge = call.equals("hedge");
                if (!place(a[0])) {
                    return UNKNOWN;
                }
                if (!in(a[1], 0, hedge ? 5 : 9)) {
                    return OUTSIDE;
                }
                int[] row = hedge ? w.hedge : w.lie;
                int was = row[a[0]];
                row[a[0]] = a[1];
                return was;
            }
            case "person": {
                if (!in(a[0], 0, 4) || !place(a[1])) {
                    return UNKNOWN;
                }
                if (!in(a[2], 1, 36) || !in(a[3], 0, 9)) {
                    return OUTSIDE;
                }
                Someone p = new Someone();
                p.place = a[1];
                p.arm = a[2];
                p.stones = a[3];
                w.people[a[0]] = p;
                return count();
            }
            case "leave":
                if (!there(a[0])) {
                    return UNKNOWN;
                }
                w.people[a[0]] = null;
                return count();
            case "say":
                if (!in(a[0], 33, 126)) {
                    return OUTSIDE;
                }
                if (pad.length() == 60) {
                    return FULL;
                }
                pad += (char) a[0];
                return pad.length();
            case "wipe": {
                int was = pad.length();
                pad = "";
                return was;
            }
            case "fault":
                return fault();
            case "judge":
                if (!in(a[0], 0, 1)) {
                    return OUTSIDE;
                }
                if (fault() != NONE) {
                    return NO;
                }
                return day() != null ? NONE : a[0] == 0 ? at : why;
            case "done": {
                World d = fault() != NONE ? null : day();
                if (d == null) {
                    return NO;
                }
                w = d;
                pad = "";
                return events;
            }
            case "state":
            case "behind": {
                if (!there(a[0])) {
                    return UNKNOWN;
                }
                if (!in(a[1], 0, 2)) {
                    return OUTSIDE;
                }
                World d = call.equals("state") ? w : fault() != NONE ? null : day();
                if (d == null) {
                    return NO;
                }
                Someone p = d.people[a[0]];
                return a[1] == 0 ? p.place : a[1] == 1 ? p.stones : p.caught;
            }
            case "stones": {
                if (!place(a[0])) {
                    return UNKNOWN;
                }
                if (!in(a[1], 0, 2)) {
                    return OUTSIDE;
                }
                int up = 0;
                for (Stone s : w.air) {
                    up += s.place(w.n) == a[0] ? 1 : 0;
                }
                return a[1] == 0 ? w.lie[a[0]] : a[1] == 1 ? w.lost[a[0]] : up;
            }
            default: {
                if (a[0] == -1) {
                    return w.air.size();
                }
                if (!in(a[0], 0, w.air.size() - 1)) {
                    return NONE;
                }
                Stone s = w.air.get(a[0]);
                return 100 * s.place(w.n) + 10 * s.high() + s.way;
            }
        }
    }

    private long answerThrows(String call, int[] a) {
        switch (call) {
            case "flight": {
                if (!there(a[0])) {
                    return UNKNOWN;
                }
                if (!isThrow(a[1], a[2], a[3]) || !in(a[4], 0, 3)) {
                    return OUTSIDE;
                }
                End e = w.fly(w.people[a[0]].place, a[1], a[2], a[3]);
                return a[4] == 0 ? e.how : a[4] == 1 ? e.minutes : a[4] == 2 ? e.place : e.by;
            }
            case "gets":
            case "keptOff":
                if (!there(a[0]) || !there(a[1])) {
                    return UNKNOWN;
                }
                if (!in(a[2], 0, call.equals("gets") ? 4 : 1)) {
                    return OUTSIDE;
                }
                return call.equals("gets") ? gets(a[0], a[1], a[2]) : keptOff(a[0], a[1], a[2]);
            case "round":
                return there(a[0]) ? round(a[0]) : UNKNOWN;
            case "laid":
                return laid(0, w.lie.clone());
            case "list":
                if (!in(a[0], 0, 5) || !there(a[1])) {
                    return UNKNOWN;
                }
                if (!isThrow(a[2], a[3], a[4]) || !in(a[5], 0, 99) || !in(a[6], 0, 20)) {
                    return OUTSIDE;
                }
                w.listed[a[0]] = new Listed(w.people[a[1]].place, a[2], a[3], a[4], a[5], a[6]);
                return Integer.bitCount(bits(w.listed));
            case "strike":
                if (!in(a[0], 0, 5) || w.listed[a[0]] == null) {
                    return UNKNOWN;
                }
                w.listed[a[0]] = null;
                return Integer.bitCount(bits(w.listed));
            case "meet":
                if (!in(a[0], 0, 5) || !in(a[1], 0, 5) || a[0] == a[1] || w.listed[a[0]] == null
                        || w.listed[a[1]] == null) {
                    return UNKNOWN;
                }
                return meet(a[0], a[1]);
            case "forbidden":
                return !in(a[0], 0, 1) ? OUTSIDE : a[0] == 1 ? forbidden() : Integer.bitCount(forbidden());
            case "duck":
                if (!place(a[0])) {
                    return UNKNOWN;
                }
                return !in(a[1], 1, 999) || !in(a[2], 0, 1) ? OUTSIDE : duck(a[0], a[1], a[2]);
            case "hands": {
                if (!in(a[0], 0, 1)) {
                    return OUTSIDE;
                }
                int set = hands();
                return set == NONE || a[0] == 1 ? set : Integer.bitCount(set);
            }
            default:
                return answerSights(call, a);
        }
    }

    private long answerSights(String call, int[] a) {
        switch (call) {
            case "seen":
                if (!place(a[1])) {
                    return UNKNOWN;
                }
                if (!in(a[0], 0, 36) || !in(a[2], 1, 5)) {
                    return OUTSIDE;
                }
                if (w.sights.size() == 6) {
                    return FULL;
                }
                w.sights.add(new Sight(a[0], a[1], a[2]));
                return w.sights.size();
            case "forget": {
                int was = w.sights.size();
                w.sights.clear();
                return was;
            }
            case "who":
                return in(a[0], 0, 1) ? who(a[0]) : OUTSIDE;
            case "slips":
                if (!there(a[0]) || !there(a[1])) {
                    return LOST + UNKNOWN;
                }
                if (!isThrow(a[2], a[3], a[4]) || !in(a[5], 0, 5) || !in(a[6], 0, 1)) {
                    return LOST + OUTSIDE;
                }
                return slips(a);
            case "year":
                if (!in(a[0], 0, 9999) || !in(a[1], 1, 99) || !in(a[2], 0, 2)) {
                    return OUTSIDE;
                }
                return year(a[0], a[1], a[2]);
            case "image":
                if (!in(a[0], 0, 1)) {
                    return OUTSIDE;
                }
                images[a[0]] = w.copy();
                return 1;
            case "restore":
                if (!in(a[0], 0, 1)) {
                    return OUTSIDE;
                }
                if (images[a[0]] == null) {
                    return STATE;
                }
                w = images[a[0]].copy();
                return 1;
            default:
                if (in(a[0], 0, 5)) {
                    int[] all = {pad.length(), w.n, bits(w.people), w.air.size(), bits(w.listed),
                        w.sights.size()};
                    return all[a[0]];
                }
                if (in(a[0], 10, 9 + w.n)) {
                    return w.hedge[a[0] - 10];
                }
                return in(a[0], 20, 24) && there(a[0] - 20) ? w.people[a[0] - 20].arm : OUTSIDE;
        }
    }

    // ---- the runs

    private static final int[] WILD = {Integer.MIN_VALUE, Integer.MAX_VALUE, -1, -7, 1000, 100000, -2, 37, 10};

    /** The least and the most of each argument, call by call, a little beyond what is told. */
    private static final int[][] RANGES = {{3, 10}, {-1, 9, -1, 6}, {-1, 9, -1, 10}, {-1, 5, -1, 9, 0, 37, -1, 10},
        {-1, 5}, {32, 127}, {}, {}, {-1, 2}, {}, {-1, 5, -1, 3}, {-1, 5, -1, 3}, {-1, 9, -1, 3}, {-2, 12},
        {-1, 5, -1, 2, 0, 37, 0, 6, -1, 4}, {-1, 5, -1, 5, -1, 5}, {-1, 5}, {-1, 5, -1, 5, -1, 2}, {},
        {-1, 6, -1, 5, -1, 2, 0, 37, 0, 6, -1, 100, -1, 21}, {-1, 6}, {-1, 6, -1, 6}, {-1, 2},
        {-1, 9, 0, 1000, -1, 2}, {-1, 2}, {-1, 37, -1, 9, 0, 6}, {}, {-1, 2},
        {-1, 5, -1, 5, -1, 2, 0, 37, 0, 6, -1, 6, -1, 2}, {-1, 10000, 0, 100, -1, 3}, {-1, 2}, {-1, 2}, {-1, 26}};

    private static int[] arguments(Random r, int call, boolean inside) {
        int[] a = new int[ARITY[call]];
        for (int i = 0; i < a.length; i++) {
            int least = RANGES[call][2 * i] + (inside ? 1 : 0);
            int most = RANGES[call][2 * i + 1] - (inside ? 1 : 0);
            a[i] = !inside && r.nextInt(8) == 0 ? WILD[r.nextInt(WILD.length)]
                : least + r.nextInt(most - least + 1);
        }
        return a;
    }

    private static int wrong;

    private final StringBuilder told = new StringBuilder();

    private int asked;

    private boolean step(StoneRound s, int call, int... a) {
        if (asked == 512) {
            // what later calls answer is free: the run is over
            return false;
        }
        asked++;
        long due = answer(call, a);
        long got = ask(s, call, a);
        told.append(CALLS[call]).append(java.util.Arrays.toString(a)).append(" = ").append(got).append('\n');
        if (due != got) {
            wrong++;
            System.out.println(told + "due is " + due);
        }
        return due == got;
    }

    private static int call(String name) {
        for (int i = 0; i < CALLS.length; i++) {
            if (CALLS[i].equals(name)) {
                return i;
            }
        }
        throw new IllegalArgumentException(name);
    }

    private static String event(Random r) {
        char person = (char) ('A' + r.nextInt(5));
        int kind = r.nextInt(10);
        if (kind < 4) {
            return ".";
        }
        if (kind < 6) {
            return person + (r.nextBoolean() ? "o" : "k");
        }
        if (kind == 6) {
            return person + "+";
        }
        return person + (r.nextBoolean() ? ">" : "<") + String.format("%02d", 1 + r.nextInt(r.nextBoolean() ? 8 : 36))
            + (1 + r.nextInt(5));
    }

    /** A day that mostly can be: an event that can not be is mostly left out. */
    private boolean sayDay(StoneRound s, Random r) {
        boolean good = step(s, call("wipe"));
        int events = 1 + r.nextInt(24);
        for (int i = 0; i < events && good; i++) {
            String e = event(r);
            String before = pad;
            if (pad.length() + e.length() > 60) {
                break;
            }
            pad = before + e;
            boolean can = day() != null;
            pad = before;
            if (can || r.nextInt(40) == 0) {
                for (char c : e.toCharArray()) {
                    good &= step(s, call("say"), c);
                }
            }
        }
        good &= step(s, call("judge"), 0) && step(s, call("judge"), 1);
        for (int p = 0; p < 5; p++) {
            good &= step(s, call("behind"), p, r.nextInt(3));
        }
        good &= step(s, call("done"));
        for (int i = -1; i < 13; i++) {
            good &= step(s, call("air"), i);
        }
        for (int p = 0; p < 9; p++) {
            good &= step(s, call("stones"), p, r.nextInt(3)) && step(s, call("state"), p, r.nextInt(3));
        }
        return good;
    }

    private boolean fill(StoneRound s, Random r) {
        boolean good = r.nextBoolean() || step(s, call("places"), 4 + r.nextInt(6));
        for (int p = 0; p < 5; p++) {
            if (r.nextInt(3) > 0) {
                int arm = r.nextBoolean() ? 36 : 1 + r.nextInt(36);
                good &= step(s, call("person"), p, r.nextInt(w.n), arm, r.nextInt(10));
            }
        }
        for (int p = 0; p < w.n; p++) {
            if (r.nextInt(4) == 0) {
                good &= step(s, call("hedge"), p, r.nextInt(6));
            }
            if (r.nextInt(3) == 0) {
                good &= step(s, call("lay"), p, r.nextInt(3));
            }
        }
        for (int i = 0; i < 6; i++) {
            int[] a = arguments(r, call("list"), true);
            a[0] = i;
            a[3] = r.nextBoolean() ? a[3] : Math.min(36, 2 + r.nextInt(10));
            a[6] = r.nextInt(3) == 0 ? 0 : a[6];
            good &= step(s, call("list"), a);
        }
        return good;
    }

    /** A sight that some throw of somebody made, so that WHO has something to find. */
    private boolean see(StoneRound s, Random r) {
        int p = r.nextInt(5);
        if (w.people[p] == null) {
            return true;
        }
        Stone stone = new Stone(w.people[p].place, r.nextInt(2), 1 + r.nextInt(w.people[p].arm), 1 + r.nextInt(5));
        boolean good = true;
        for (int i = 0; i < 2; i++) {
            stone.k = 1 + r.nextInt(Math.min(12, stone.reach));
            good &= step(s, call("seen"), stone.k, stone.place(w.n), stone.high());
            good &= step(s, call("who"), 0) && step(s, call("who"), 1);
        }
        return good;
    }

    private static void run(long seed) {
        Random r = new Random(seed);
        NaiveModelTest model = new NaiveModelTest();
        StoneRound s = new StoneRound();
        boolean good = r.nextInt(10) == 0 || model.fill(s, r);
        int calls = 40 + r.nextInt(40);
        for (int i = 0; i < calls && good; i++) {
            int what = r.nextInt(30);
            if (what == 0) {
                good = model.sayDay(s, r);
            } else if (what == 1) {
                good = model.see(s, r);
            } else {
                int call = r.nextInt(CALLS.length);
                // worlds that lose all too often show little
                if (call == call("places") && r.nextInt(5) > 0) {
                    continue;
                }
                good = model.step(s, call, arguments(r, call, r.nextInt(4) > 0));
            }
        }
    }

    public static void main(String[] args) {
        int runs = args.length > 0 ? Integer.parseInt(args[0]) : 400;
        for (int seed = 1; seed <= runs && wrong < 3; seed++) {
            run(seed);
        }
        System.out.println(wrong == 0 ? runs + " runs are as the model's" : wrong + " runs differ");
        if (wrong != 0) {
            System.exit(1);
        }
    }
}
