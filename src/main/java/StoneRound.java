/**
 * A small round world with places, hedges, people and thrown stones.
 * The promises are told in ../shared/DOC.md; every row is made with the object and used again.
 */
public final class StoneRound {
    public static final int NONE = -6, UNKNOWN = -1, OUTSIDE = -2, STATE = -3, FULL = -4, NO = -5;
    public static final long LOST = -1000000000000000000L;

    private static final int LEAST_PLACES = 4, MOST_PLACES = 9, FIRST_PLACES = 8;
    private static final int MOST_HEDGE = 5, MOST_LAID = 9, MOST_PEOPLE = 5, MOST_HELD = 9;
    private static final int MOST_REACH = 36, MOST_TOP = 5, MOST_AIR = 12, MOST_SIGNS = 60;
    private static final int MOST_THROWS = 6, MOST_AT = 99, MOST_EACH = 20, MOST_DUCK = 999;
    private static final int MOST_SIGHTS = 6, MOST_SLIP = 5, MOST_SEED = 9999, MOST_YEAR = 99;
    private static final int LIES = 0, IN_HEDGE = 1, CAUGHT = 2;
    private static final int WHY_ABSENT = 1, WHY_EMPTY = 2, WHY_ARM = 3, WHY_AIR = 4, WHY_BARE = 5;
    private static final int FAR = 1000000;

    private final Kept now = new Kept();
    private final Kept firstImage = new Kept();
    private final Kept secondImage = new Kept();
    private final World trial = new World();
    private final Pad pad = new Pad();
    private final Scene scene = new Scene();
    private final Flight trip = new Flight();
    private final Aims aims = new Aims();
    private final Meetings meetings = new Meetings();
    private final int[] steps = new int[1 << MOST_PEOPLE];

    public StoneRound() {
    }

    // ---- 1 worlds, people, days

    public int places(int n) {
        if (!within(n, LEAST_PLACES, MOST_PLACES)) {
            return OUTSIDE;
        }
        int before = now.world.places;
        now.world.begin(n);
        now.listed.bits = 0;
        now.sights.count = 0;
        return before;
    }

    public int hedge(int place, int high) {
        if (!now.world.hasPlace(place)) {
            return UNKNOWN;
        }
        if (!within(high, 0, MOST_HEDGE)) {
            return OUTSIDE;
        }
        int before = now.world.hedges[place];
        now.world.hedges[place] = high;
        return before;
    }

    public int lay(int place, int many) {
        if (!now.world.hasPlace(place)) {
            return UNKNOWN;
        }
        if (!within(many, 0, MOST_LAID)) {
            return OUTSIDE;
        }
        int before = now.world.ground[place];
        now.world.ground[place] = many;
        return before;
    }

    public int person(int person, int place, int arm, int stones) {
        if (!within(person, 0, MOST_PEOPLE - 1) || !now.world.hasPlace(place)) {
            return UNKNOWN;
        }
        if (!within(arm, 1, MOST_REACH) || !within(stones, 0, MOST_HELD)) {
            return OUTSIDE;
        }
        now.world.put(person, place, arm, stones);
        return Integer.bitCount(now.world.there);
    }

    public int leave(int person) {
        if (!now.world.hasPerson(person)) {
            return UNKNOWN;
        }
        now.world.there &= ~(1 << person);
        return Integer.bitCount(now.world.there);
    }

    public int say(int sign) {
        if (!within(sign, 33, 126)) {
            return OUTSIDE;
        }
        return pad.write(sign) ? pad.count : FULL;
    }

    public int wipe() {
        int before = pad.count;
        pad.count = 0;
        return before;
    }

    public int fault() {
        return pad.firstWrong();
    }

    // ---- 2 days, flights

    public int judge(int what) {
        if (!within(what, 0, 1)) {
            return OUTSIDE;
        }
        if (pad.firstWrong() != NONE) {
            return NO;
        }
        if (tryDay()) {
            return NONE;
        }
        return what == 0 ? pad.events : pad.why;
    }

    public int done() {
        if (!tryDay()) {
            return NO;
        }
        now.world.takeFrom(trial);
        pad.count = 0;
        return pad.events;
    }

    public int state(int person, int what) {
        if (!now.world.hasPerson(person)) {
            return UNKNOWN;
        }
        if (!within(what, 0, 2)) {
            return OUTSIDE;
        }
        return now.world.tellPerson(person, what);
    }

    public int behind(int person, int what) {
        if (!now.world.hasPerson(person)) {
            return UNKNOWN;
        }
        if (!within(what, 0, 2)) {
            return OUTSIDE;
        }
        return tryDay() ? trial.tellPerson(person, what) : NO;
    }

    public int stones(int place, int what) {
        if (!now.world.hasPlace(place)) {
            return UNKNOWN;
        }
        if (!within(what, 0, 2)) {
            return OUTSIDE;
        }
        if (what == 0) {
            return now.world.ground[place];
        }
        return what == 1 ? now.world.lost[place] : now.world.air.countAt(place);
    }

    public int air(int i) {
        Air stones = now.world.air;
        if (i == -1) {
            return stones.count;
        }
        return within(i, 0, stones.count - 1) ? stones.tellStone(i) : NONE;
    }

    public int flight(int person, int way, int reach, int top, int what) {
        if (!now.world.hasPerson(person)) {
            return UNKNOWN;
        }
        if (!isThrow(way, reach, top) || !within(what, 0, 3)) {
            return OUTSIDE;
        }
        scene.look(now.world, true);
        trip.go(scene, now.world.at[person], way, reach, top);
        return trip.tellEnd(what);
    }

    // ---- 3 from one to another

    public int gets(int person, int other, int what) {
        if (!now.world.hasPerson(person) || !now.world.hasPerson(other)) {
            return UNKNOWN;
        }
        if (!within(what, 0, 4)) {
            return OUTSIDE;
        }
        scene.look(now.world, true);
        aims.search(now.world, scene, trip, person, other);
        return aims.tellBest(what);
    }

    public int round(int person) {
        if (!now.world.hasPerson(person)) {
            return UNKNOWN;
        }
        scene.look(now.world, true);
        for (int reach = 1; reach <= MOST_REACH; reach++) {
            if (comesRound(person, reach)) {
                return reach;
            }
        }
        return NONE;
    }

    public int keptOff(int person, int other, int what) {
        if (!now.world.hasPerson(person) || !now.world.hasPerson(other)) {
            return UNKNOWN;
        }
        if (!within(what, 0, 1)) {
            return OUTSIDE;
        }
        scene.look(now.world, true);
        aims.search(now.world, scene, trip, person, other);
        if (aims.many == 0) {
            return what == 0 ? 0 : NONE;
        }
        int place = aims.lowestNeed(now.world.places);
        if (place == NONE) {
            return NONE;
        }
        return what == 0 ? aims.need[place] : place;
    }

    public int laid() {
        int all = now.world.emptyHands();
        for (int set = 0; set < steps.length; set++) {
            steps[set] = set == 0 ? 0 : FAR;
        }
        for (int place = 0; place < now.world.places; place++) {
            // more stones at one place than there are people change nothing
            int stones = Math.min(now.world.ground[place], MOST_PEOPLE);
            for (int stone = 0; stone < stones; stone++) {
                offerStone(place, all);
            }
        }
        return steps[all] < FAR ? steps[all] : NONE;
    }

    // ---- 4 throws over and over

    public int list(int i, int person, int way, int reach, int top, int at, int each) {
        if (!within(i, 0, MOST_THROWS - 1) || !now.world.hasPerson(person)) {
            return UNKNOWN;
        }
        if (!isThrow(way, reach, top) || !within(at, 0, MOST_AT) || !within(each, 0, MOST_EACH)) {
            return OUTSIDE;
        }
        now.listed.setWay(i, now.world.at[person], way, reach, top);
        now.listed.setTimes(i, at, each);
        return Integer.bitCount(now.listed.bits);
    }

    public int strike(int i) {
        if (!now.listed.has(i)) {
            return UNKNOWN;
        }
        now.listed.bits &= ~(1 << i);
        return Integer.bitCount(now.listed.bits);
    }

    public int meet(int i, int j) {
        if (!now.listed.has(i) || !now.listed.has(j) || i == j) {
            return UNKNOWN;
        }
        scene.look(now.world, true);
        return meetings.firstMeeting(now.listed, scene, i, j);
    }

    public int forbidden(int what) {
        if (!within(what, 0, 1)) {
            return OUTSIDE;
        }
        scene.look(now.world, true);
        int set = meetings.fewestForbidden(now.listed, scene);
        return what == 0 ? Integer.bitCount(set) : set;
    }

    public int duck(int place, int m, int what) {
        if (!now.world.hasPlace(place)) {
            return UNKNOWN;
        }
        if (!within(m, 1, MOST_DUCK) || !within(what, 0, 1)) {
            return OUTSIDE;
        }
        scene.look(now.world, true);
        meetings.markLow(now.listed, scene, place, m);
        return what == 0 ? meetings.countMarks(m) : meetings.firstMark(m);
    }

    public int hands(int what) {
        if (!within(what, 0, 1)) {
            return OUTSIDE;
        }
        scene.look(now.world, false);
        int set = meetings.fewestHands(now.listed, scene);
        if (set == NONE) {
            return NONE;
        }
        return what == 0 ? Integer.bitCount(set) : set;
    }

    // ---- 5 sights, slips

    public int seen(int k, int place, int high) {
        if (!now.world.hasPlace(place)) {
            return UNKNOWN;
        }
        if (!within(k, 0, MOST_REACH) || !within(high, 1, MOST_TOP)) {
            return OUTSIDE;
        }
        return now.sights.note(k, place, high) ? now.sights.count : FULL;
    }

    public int forget() {
        int before = now.sights.count;
        now.sights.count = 0;
        return before;
    }

    public int who(int what) {
        if (!within(what, 0, 1)) {
            return OUTSIDE;
        }
        scene.look(now.world, true);
        int people = 0;
        int many = 0;
        for (int person = 0; person < MOST_PEOPLE; person++) {
            int fitting = now.world.hasPerson(person) ? fittingThrows(person) : 0;
            many += fitting;
            people |= fitting > 0 ? 1 << person : 0;
        }
        return what == 0 ? people : many;
    }

    public long slips(int person, int other, int way, int reach, int top, int c, int part) {
        if (!now.world.hasPerson(person) || !now.world.hasPerson(other)) {
            return LOST + UNKNOWN;
        }
        if (!isThrow(way, reach, top) || !within(c, 0, MOST_SLIP) || !within(part, 0, 1)) {
            return LOST + OUTSIDE;
        }
        scene.look(now.world, true);
        int from = now.world.at[person];
        int tenths = 0;
        tenths += goesTo(other, from, way, Math.max(reach - 1, 1), top) ? c : 0;
        tenths += goesTo(other, from, way, Math.min(reach + 1, MOST_REACH), top) ? c : 0;
        tenths += goesTo(other, from, way, reach, top) ? 10 - 2 * c : 0;
        int shared = sharedWithTen(tenths);
        return part == 0 ? tenths / shared : 10 / shared;
    }

    public int year(int seed, int m, int what) {
        if (!within(seed, 0, MOST_SEED) || !within(m, 1, MOST_YEAR) || !within(what, 0, 2)) {
            return OUTSIDE;
        }
        trial.takeFrom(now.world);
        int x = seed;
        int thrown = 0;
        int caught = 0;
        for (int minute = 0; minute < m; minute++) {
            x = (75 * x + 74) % 65537;
            thrown += trial.drawThrow(x) ? 1 : 0;
            caught += trial.passMinute();
        }
        if (what == 0) {
            return thrown;
        }
        return what == 1 ? caught : trial.lostInAll();
    }

    public int image(int n) {
        if (!within(n, 0, 1)) {
            return OUTSIDE;
        }
        imageOf(n).takeFrom(now);
        imageOf(n).filled = true;
        return 1;
    }

    public int restore(int n) {
        if (!within(n, 0, 1)) {
            return OUTSIDE;
        }
        if (!imageOf(n).filled) {
            return STATE;
        }
        now.takeFrom(imageOf(n));
        return 1;
    }

    public int told(int what) {
        switch (what) {
            case 0: return pad.count;
            case 1: return now.world.places;
            case 2: return now.world.there;
            case 3: return now.world.air.count;
            case 4: return now.listed.bits;
            case 5: return now.sights.count;
            default: break;
        }
        if (within(what, 10, 10 + now.world.places - 1)) {
            return now.world.hedges[what - 10];
        }
        if (within(what, 20, 20 + MOST_PEOPLE - 1) && now.world.hasPerson(what - 20)) {
            return now.world.arm[what - 20];
        }
        return OUTSIDE;
    }

    // ---- helpers of the calls

    private static boolean within(int x, int least, int most) {
        return x >= least && x <= most;
    }

    private static boolean isThrow(int way, int reach, int top) {
        return within(way, 0, 1) && within(reach, 1, MOST_REACH) && within(top, 1, MOST_TOP);
    }

    private static int nextPlace(int place, int way, int places) {
        if (way == 0) {
            return place + 1 < places ? place + 1 : 0;
        }
        return place > 0 ? place - 1 : places - 1;
    }

    private static int heightBehind(int k, int reach, int top) {
        return Math.min(Math.min(k, reach - k), top);
    }

    private static boolean isCatchable(int high) {
        return high == 1 || high == 2;
    }

    /** Plays the day on a copy of the world; false: there is a fault or an event that can not be. */
    private boolean tryDay() {
        if (pad.firstWrong() != NONE) {
            return false;
        }
        trial.takeFrom(now.world);
        return pad.play(trial);
    }

    private boolean goesTo(int catcher, int from, int way, int reach, int top) {
        trip.go(scene, from, way, reach, top);
        return trip.isCaughtBy(catcher);
    }

    private boolean comesRound(int person, int reach) {
        int home = now.world.at[person];
        for (int top = 1; top <= MOST_TOP; top++) {
            for (int way = 0; way <= 1; way++) {
                if (goesTo(person, home, way, reach, top) && trip.minutes == now.world.places) {
                    return true;
                }
            }
        }
        return false;
    }

    /** One more stone may be taken: sets go down, so that it is not taken twice. */
    private void offerStone(int place, int all) {
        for (int set = all; set >= 0; set--) {
            if ((set & ~all) != 0 || steps[set] >= FAR) {
                continue;
            }
            for (int person = 0; person < MOST_PEOPLE; person++) {
                int bit = 1 << person;
                if ((all & ~set & bit) != 0) {
                    int sum = steps[set] + now.world.distance(now.world.at[person], place);
                    steps[set | bit] = Math.min(steps[set | bit], sum);
                }
            }
        }
    }

    private int fittingThrows(int person) {
        int many = 0;
        for (int reach = 1; reach <= now.world.arm[person]; reach++) {
            for (int top = 1; top <= MOST_TOP; top++) {
                // heights are the same on both ways and cost less than a flight
                if (now.sights.fitHeights(reach, top)) {
                    many += fitsSights(person, 0, reach, top) ? 1 : 0;
                    many += fitsSights(person, 1, reach, top) ? 1 : 0;
                }
            }
        }
        return many;
    }

    private boolean fitsSights(int person, int way, int reach, int top) {
        if (now.sights.count == 0) {
            return true;
        }
        trip.go(scene, now.world.at[person], way, reach, top);
        return now.sights.fit(trip);
    }

    private static int sharedWithTen(int tenths) {
        if (tenths % 10 == 0) {
            return 10;
        }
        if (tenths % 5 == 0) {
            return 5;
        }
        return tenths % 2 == 0 ? 2 : 1;
    }

    private Kept imageOf(int n) {
        return n == 0 ? firstImage : secondImage;
    }

    /** Stones in the air, in the order in which they were thrown. */
    private static final class Air {
        int count;
        final int[] place = new int[MOST_AIR];
        final int[] way = new int[MOST_AIR];
        final int[] reach = new int[MOST_AIR];
        final int[] top = new int[MOST_AIR];
        final int[] age = new int[MOST_AIR];
        final int[] high = new int[MOST_AIR];

        void takeFrom(Air other) {
            count = other.count;
            System.arraycopy(other.place, 0, place, 0, MOST_AIR);
            System.arraycopy(other.way, 0, way, 0, MOST_AIR);
            System.arraycopy(other.reach, 0, reach, 0, MOST_AIR);
            System.arraycopy(other.top, 0, top, 0, MOST_AIR);
            System.arraycopy(other.age, 0, age, 0, MOST_AIR);
            System.arraycopy(other.high, 0, high, 0, MOST_AIR);
        }

        void add(int from, int wayOn, int far, int highest) {
            if (count >= MOST_AIR) {
                return;
            }
            place[count] = from;
            way[count] = wayOn;
            reach[count] = far;
            top[count] = highest;
            age[count] = 0;
            high[count] = 0;
            count++;
        }

        void moveOn(int places) {
            for (int i = 0; i < count; i++) {
                place[i] = nextPlace(place[i], way[i], places);
                age[i]++;
                high[i] = heightBehind(age[i], reach[i], top[i]);
            }
        }

        void moveStone(int from, int to) {
            place[to] = place[from];
            way[to] = way[from];
            reach[to] = reach[from];
            top[to] = top[from];
            age[to] = age[from];
            high[to] = high[from];
        }

        int countAt(int spot) {
            int many = 0;
            for (int i = 0; i < count; i++) {
                many += place[i] == spot ? 1 : 0;
            }
            return many;
        }

        int tellStone(int i) {
            return 100 * place[i] + 10 * high[i] + way[i];
        }

        /** As bits: those that are down, and those that are at one place as high as another. */
        int fallingBits() {
            int bits = 0;
            for (int i = 0; i < count; i++) {
                if (high[i] < 1) {
                    bits |= 1 << i;
                }
                for (int j = i + 1; j < count; j++) {
                    if (place[i] == place[j] && high[i] == high[j]) {
                        bits |= 1 << i | 1 << j;
                    }
                }
            }
            return bits;
        }
    }

    /** Places, hedges, people, and stones wherever they are. */
    private static final class World {
        int places = FIRST_PLACES;
        final int[] hedges = new int[MOST_PLACES];
        final int[] ground = new int[MOST_PLACES];
        final int[] lost = new int[MOST_PLACES];
        int there;
        final int[] at = new int[MOST_PEOPLE];
        final int[] arm = new int[MOST_PEOPLE];
        final int[] held = new int[MOST_PEOPLE];
        final int[] caught = new int[MOST_PEOPLE];
        final Air air = new Air();

        void begin(int n) {
            places = n;
            there = 0;
            air.count = 0;
            for (int place = 0; place < MOST_PLACES; place++) {
                hedges[place] = 0;
                ground[place] = 0;
                lost[place] = 0;
            }
        }

        void takeFrom(World other) {
            places = other.places;
            there = other.there;
            System.arraycopy(other.hedges, 0, hedges, 0, MOST_PLACES);
            System.arraycopy(other.ground, 0, ground, 0, MOST_PLACES);
            System.arraycopy(other.lost, 0, lost, 0, MOST_PLACES);
            System.arraycopy(other.at, 0, at, 0, MOST_PEOPLE);
            System.arraycopy(other.arm, 0, arm, 0, MOST_PEOPLE);
            System.arraycopy(other.held, 0, held, 0, MOST_PEOPLE);
            System.arraycopy(other.caught, 0, caught, 0, MOST_PEOPLE);
            air.takeFrom(other.air);
        }

        boolean hasPlace(int place) {
            return within(place, 0, places - 1);
        }

        boolean hasPerson(int person) {
            return within(person, 0, MOST_PEOPLE - 1) && (there >> person & 1) != 0;
        }

        /** Who is there anew has caught nothing yet. */
        void put(int person, int place, int reach, int stones) {
            there |= 1 << person;
            at[person] = place;
            arm[person] = reach;
            held[person] = stones;
            caught[person] = 0;
        }

        int tellPerson(int person, int what) {
            if (what == 0) {
                return at[person];
            }
            return what == 1 ? held[person] : caught[person];
        }

        int leastAt(int place) {
            for (int person = 0; person < MOST_PEOPLE; person++) {
                if ((there >> person & 1) != 0 && at[person] == place) {
                    return person;
                }
            }
            return NONE;
        }

        int emptyHands() {
            int bits = 0;
            for (int person = 0; person < MOST_PEOPLE; person++) {
                if (hasPerson(person) && held[person] == 0) {
                    bits |= 1 << person;
                }
            }
            return bits;
        }

        int distance(int from, int to) {
            int straight = Math.abs(from - to);
            return Math.min(straight, places - straight);
        }

        int lostInAll() {
            int sum = 0;
            for (int place = 0; place < places; place++) {
                sum += lost[place];
            }
            return sum;
        }

        /** Why a throw can not be, 0: it can. */
        int whyNoThrow(int person, int reach) {
            if (!hasPerson(person)) {
                return WHY_ABSENT;
            }
            if (held[person] < 1) {
                return WHY_EMPTY;
            }
            if (reach > arm[person]) {
                return WHY_ARM;
            }
            return air.count >= MOST_AIR ? WHY_AIR : 0;
        }

        /** Throws, if it can be; else tells why not. */
        int throwStone(int person, int way, int reach, int top) {
            int why = whyNoThrow(person, reach);
            if (why == 0) {
                held[person]--;
                air.add(at[person], way, reach, top);
            }
            return why;
        }

        int pickUp(int person) {
            if (!hasPerson(person)) {
                return WHY_ABSENT;
            }
            int place = at[person];
            if (ground[place] < 1) {
                return WHY_BARE;
            }
            ground[place]--;
            held[person]++;
            return 0;
        }

        int walk(int person, int way) {
            if (!hasPerson(person)) {
                return WHY_ABSENT;
            }
            at[person] = nextPlace(at[person], way, places);
            return 0;
        }

        /** The throw that a draw of the year tells; false: it can not be. */
        boolean drawThrow(int x) {
            int person = x % 5;
            if (!hasPerson(person) || arm[person] < 1) {
                return false;
            }
            int way = x / 5 % 2;
            int reach = x / 10 % arm[person] + 1;
            int top = x / 100 % 5 + 1;
            return throwStone(person, way, reach, top) == 0;
        }

        /** A minute passes: how many stones were caught. */
        int passMinute() {
            air.moveOn(places);
            int many = endInHedgesAndHands();
            fallDown();
            return many;
        }

        private int endInHedgesAndHands() {
            int many = 0;
            int left = 0;
            for (int i = 0; i < air.count; i++) {
                int place = air.place[i];
                int high = air.high[i];
                int catcher = isCatchable(high) ? leastAt(place) : NONE;
                if (hedges[place] > high) {
                    lost[place]++;
                } else if (catcher != NONE) {
                    held[catcher]++;
                    caught[catcher]++;
                    many++;
                } else {
                    air.moveStone(i, left);
                    left++;
                }
            }
            air.count = left;
            return many;
        }

        private void fallDown() {
            int falling = air.fallingBits();
            int left = 0;
            for (int i = 0; i < air.count; i++) {
                if ((falling >> i & 1) != 0) {
                    ground[air.place[i]]++;
                } else {
                    air.moveStone(i, left);
                    left++;
                }
            }
            air.count = left;
        }
    }

    /** The text of a day, and what came of it when it was last played. */
    private static final class Pad {
        private static final int BEGIN = 0, NAMED = 1, THROWN = 2, TENS = 3, REACHED = 4;

        int count;
        int events;
        int why;
        private final int[] signs = new int[MOST_SIGNS];

        boolean write(int sign) {
            if (count >= MOST_SIGNS) {
                return false;
            }
            signs[count] = sign;
            count++;
            return true;
        }

        int firstWrong() {
            int stage = BEGIN;
            for (int i = 0; i < count; i++) {
                stage = nextStage(stage, signs[i], signAt(i - 1));
                if (stage == NONE) {
                    return i;
                }
            }
            return stage == BEGIN ? NONE : count;
        }

        /** Where in an event the text stands behind a sign; NONE: the sign can not stand there. */
        private static int nextStage(int stage, int sign, int before) {
            switch (stage) {
                case BEGIN:
                    return sign == '.' ? BEGIN : within(sign, 'A', 'E') ? NAMED : NONE;
                case NAMED:
                    if (sign == '>' || sign == '<') {
                        return THROWN;
                    }
                    return sign == '+' || sign == 'o' || sign == 'k' ? BEGIN : NONE;
                case THROWN:
                    return within(sign, '0', '3') ? TENS : NONE;
                case TENS:
                    return within(sign, '0', '9') && within(number(before, sign), 1, MOST_REACH)
                            ? REACHED : NONE;
                default:
                    return within(sign, '1', '5') ? BEGIN : NONE;
            }
        }

        private static int number(int tens, int ones) {
            return 10 * (tens - '0') + ones - '0';
        }

        private int signAt(int i) {
            return within(i, 0, count - 1) ? signs[i] : 0;
        }

        /** Plays a text without fault, up to the first event that can not be. */
        boolean play(World world) {
            events = 0;
            why = 0;
            int i = 0;
            while (i < count && events < MOST_SIGNS) {
                why = playEvent(world, i);
                if (why != 0) {
                    return false;
                }
                i += eventLength(i);
                events++;
            }
            return true;
        }

        private int eventLength(int i) {
            if (signAt(i) == '.') {
                return 1;
            }
            return signAt(i + 1) == '>' || signAt(i + 1) == '<' ? 5 : 2;
        }

        private int playEvent(World world, int i) {
            if (signAt(i) == '.') {
                world.passMinute();
                return 0;
            }
            int person = signAt(i) - 'A';
            int reach = number(signAt(i + 2), signAt(i + 3));
            int top = signAt(i + 4) - '0';
            switch (signAt(i + 1)) {
                case '>': return world.throwStone(person, 0, reach, top);
                case '<': return world.throwStone(person, 1, reach, top);
                case '+': return world.pickUp(person);
                case 'o': return world.walk(person, 0);
                default: return world.walk(person, 1);
            }
        }
    }

    /** What a flight goes by: the ring, its hedges, and who catches at each place. */
    private static final class Scene {
        int places = FIRST_PLACES;
        final int[] hedges = new int[MOST_PLACES];
        final int[] catcher = new int[MOST_PLACES];

        void look(World world, boolean peopleCatch) {
            places = world.places;
            for (int place = 0; place < places; place++) {
                hedges[place] = world.hedges[place];
                catcher[place] = peopleCatch ? world.leastAt(place) : NONE;
            }
        }
    }

    /** One throw with nothing else in the air: its way, minute by minute, and its end. */
    private static final class Flight {
        int ends;
        int minutes;
        int by;
        final int[] spot = new int[MOST_REACH + 1];
        final int[] high = new int[MOST_REACH + 1];

        void go(Scene scene, int from, int way, int reach, int top) {
            int place = from;
            spot[0] = from;
            high[0] = 0;
            minutes = 0;
            ends = LIES;
            by = NONE;
            for (int k = 1; k <= reach && k <= MOST_REACH; k++) {
                place = nextPlace(place, way, scene.places);
                int height = heightBehind(k, reach, top);
                spot[k] = place;
                high[k] = height;
                minutes = k;
                if (scene.hedges[place] > height) {
                    ends = IN_HEDGE;
                    return;
                }
                if (isCatchable(height) && scene.catcher[place] != NONE) {
                    ends = CAUGHT;
                    by = scene.catcher[place];
                    return;
                }
            }
        }

        boolean isCaughtBy(int person) {
            return ends == CAUGHT && by == person;
        }

        /** At a place, 1 or 2 high, behind the k-th minute: in the air, or caught just then. */
        boolean isLowAt(int k, int place) {
            boolean flies = k < minutes || k == minutes && ends == CAUGHT;
            return flies && spot[k] == place && isCatchable(high[k]);
        }

        int tellEnd(int what) {
            switch (what) {
                case 0: return ends;
                case 1: return minutes;
                case 2: return spot[minutes];
                default: return by;
            }
        }
    }

    /** All throws of one person that another one catches: the best of them, the hedges against them. */
    private static final class Aims {
        int many;
        final int[] need = new int[MOST_PLACES];
        private final int[] low = new int[MOST_PLACES];
        private int soonest;
        private int softest;

        void search(World world, Scene scene, Flight flight, int person, int other) {
            many = 0;
            soonest = FAR;
            softest = FAR;
            for (int place = 0; place < MOST_PLACES; place++) {
                need[place] = 0;
            }
            for (int way = 0; way <= 1; way++) {
                for (int reach = 1; reach <= world.arm[person]; reach++) {
                    for (int top = 1; top <= MOST_TOP; top++) {
                        flight.go(scene, world.at[person], way, reach, top);
                        if (flight.isCaughtBy(other)) {
                            noteThrow(flight.minutes, way, reach, top);
                            noteHedges(flight);
                        }
                    }
                }
            }
        }

        /** Whole numbers are less just where the throws come first, in either order. */
        private void noteThrow(int minutes, int way, int reach, int top) {
            int tail = reach << 1 | way;
            many++;
            soonest = Math.min(soonest, minutes << 10 | top << 7 | tail);
            softest = Math.min(softest, top << 13 | minutes << 7 | tail);
        }

        /** A hedge ends this throw, if it is higher than the throw at its lowest there. */
        private void noteHedges(Flight flight) {
            for (int place = 0; place < MOST_PLACES; place++) {
                low[place] = FAR;
            }
            for (int k = 1; k <= flight.minutes; k++) {
                low[flight.spot[k]] = Math.min(low[flight.spot[k]], flight.high[k]);
            }
            for (int place = 0; place < MOST_PLACES; place++) {
                need[place] = Math.max(need[place], low[place] + 1);
            }
        }

        /** The place at which the lowest hedge ends all of them. */
        int lowestNeed(int places) {
            int best = NONE;
            for (int place = 0; place < places; place++) {
                if (need[place] <= MOST_HEDGE && (best == NONE || need[place] < need[best])) {
                    best = place;
                }
            }
            return best;
        }

        int tellBest(int what) {
            if (what == 0) {
                return many;
            }
            if (many == 0) {
                return NONE;
            }
            switch (what) {
                case 1: return tellThrow(soonest, soonest >> 7 & 7);
                case 2: return soonest >> 10;
                case 3: return tellThrow(softest, softest >> 13);
                default: return softest >> 7 & 63;
            }
        }

        private static int tellThrow(int noted, int top) {
            return 1000 * (noted & 1) + 10 * (noted >> 1 & 63) + top;
        }
    }

    /** The listed throws. */
    private static final class Throws {
        int bits;
        final int[] at = new int[MOST_THROWS];
        final int[] each = new int[MOST_THROWS];
        private final int[] from = new int[MOST_THROWS];
        private final int[] way = new int[MOST_THROWS];
        private final int[] reach = new int[MOST_THROWS];
        private final int[] top = new int[MOST_THROWS];

        void takeFrom(Throws other) {
            bits = other.bits;
            System.arraycopy(other.at, 0, at, 0, MOST_THROWS);
            System.arraycopy(other.each, 0, each, 0, MOST_THROWS);
            System.arraycopy(other.from, 0, from, 0, MOST_THROWS);
            System.arraycopy(other.way, 0, way, 0, MOST_THROWS);
            System.arraycopy(other.reach, 0, reach, 0, MOST_THROWS);
            System.arraycopy(other.top, 0, top, 0, MOST_THROWS);
        }

        boolean has(int i) {
            return within(i, 0, MOST_THROWS - 1) && (bits >> i & 1) != 0;
        }

        void setWay(int i, int place, int wayOn, int far, int highest) {
            bits |= 1 << i;
            from[i] = place;
            way[i] = wayOn;
            reach[i] = far;
            top[i] = highest;
        }

        void setTimes(int i, int first, int again) {
            at[i] = first;
            each[i] = again;
        }

        void fly(int i, Scene scene, Flight flight) {
            flight.go(scene, from[i], way[i], reach[i], top[i]);
        }
    }

    /** What comes of throws over and over. */
    private static final class Meetings {
        private final Flight one = new Flight();
        private final Flight two = new Flight();
        private final int[] sets = new int[MOST_THROWS];
        private final int[] marks = new int[MOST_DUCK + 1];

        int firstMeeting(Throws listed, Scene scene, int i, int j) {
            listed.fly(i, scene, one);
            listed.fly(j, scene, two);
            int best = FAR;
            for (int k = 1; k < one.minutes; k++) {
                for (int l = 1; l < two.minutes; l++) {
                    if (one.spot[k] == two.spot[l] && one.high[k] == two.high[l]) {
                        int minute = firstCommon(listed.at[i] + k, listed.each[i],
                                listed.at[j] + l, listed.each[j]);
                        best = Math.min(best, minute);
                    }
                }
            }
            return best < FAR ? best : NONE;
        }

        /** The least number of both rows (a, a + d, ..; b, b + e, ..; a step 0: but one); FAR: none. */
        private static int firstCommon(int a, int d, int b, int e) {
            if (d < 1) {
                return isInRow(a, b, e) ? a : FAR;
            }
            if (e < 1) {
                return isInRow(b, a, d) ? b : FAR;
            }
            int x = a < b ? a + (b - a + d - 1) / d * d : a;
            // what is left over by e comes again behind e steps at most
            for (int turn = 0; turn < e; turn++) {
                if ((x - b) % e == 0) {
                    return x;
                }
                x += d;
            }
            return FAR;
        }

        private static boolean isInRow(int x, int first, int step) {
            if (x < first || step < 1) {
                return x == first;
            }
            return (x - first) % step == 0;
        }

        int fewestForbidden(Throws listed, Scene scene) {
            noteMeetings(listed, scene);
            int best = listed.bits;
            for (int set = 0; set < 1 << MOST_THROWS; set++) {
                if ((set & ~listed.bits) == 0 && Integer.bitCount(set) < Integer.bitCount(best)
                        && keepsApart(listed.bits & ~set)) {
                    best = set;
                }
            }
            return best;
        }

        private void noteMeetings(Throws listed, Scene scene) {
            for (int i = 0; i < MOST_THROWS; i++) {
                sets[i] = 0;
                for (int j = 0; j < i; j++) {
                    if (listed.has(i) && listed.has(j)
                            && firstMeeting(listed, scene, i, j) != NONE) {
                        sets[i] |= 1 << j;
                    }
                }
            }
        }

        private boolean keepsApart(int set) {
            for (int i = 0; i < MOST_THROWS; i++) {
                if ((set >> i & 1) != 0 && (sets[i] & set) != 0) {
                    return false;
                }
            }
            return true;
        }

        void markLow(Throws listed, Scene scene, int place, int last) {
            for (int minute = 0; minute <= MOST_DUCK; minute++) {
                marks[minute] = 0;
            }
            for (int i = 0; i < MOST_THROWS; i++) {
                if (listed.has(i)) {
                    listed.fly(i, scene, one);
                    for (int k = 1; k <= one.minutes; k++) {
                        if (one.isLowAt(k, place)) {
                            markRow(listed.at[i] + k, listed.each[i], last, 1 << i);
                        }
                    }
                }
            }
        }

        private void markRow(int first, int each, int last, int bit) {
            int step = each < 1 ? MOST_DUCK : each;
            for (int minute = first; minute <= last && minute <= MOST_DUCK; minute += step) {
                if ((marks[minute] & bit) != 0) {
                    // the same throw marked all that is behind this, by the same steps
                    return;
                }
                marks[minute] |= bit;
            }
        }

        int countMarks(int last) {
            int many = 0;
            for (int minute = 1; minute <= last && minute <= MOST_DUCK; minute++) {
                many += marks[minute] != 0 ? 1 : 0;
            }
            return many;
        }

        int firstMark(int last) {
            for (int minute = 1; minute <= last && minute <= MOST_DUCK; minute++) {
                if (marks[minute] != 0) {
                    return minute;
                }
            }
            return NONE;
        }

        int fewestHands(Throws listed, Scene scene) {
            for (int i = 0; i < MOST_THROWS; i++) {
                sets[i] = listed.has(i) ? catchPlaces(listed, scene, i) : 0;
            }
            int best = NONE;
            for (int set = 0; set < 1 << scene.places; set++) {
                if ((best == NONE || Integer.bitCount(set) < Integer.bitCount(best))
                        && catchesAll(set, listed.bits)) {
                    best = set;
                }
            }
            return best;
        }

        private int catchPlaces(Throws listed, Scene scene, int i) {
            listed.fly(i, scene, one);
            int set = 0;
            for (int k = 1; k < one.minutes; k++) {
                if (isCatchable(one.high[k])) {
                    set |= 1 << one.spot[k];
                }
            }
            return set;
        }

        private boolean catchesAll(int set, int listedBits) {
            for (int i = 0; i < MOST_THROWS; i++) {
                if ((listedBits >> i & 1) != 0 && (sets[i] & set) == 0) {
                    return false;
                }
            }
            return true;
        }
    }

    /** Where a stone was seen. */
    private static final class Sights {
        int count;
        private final int[] minute = new int[MOST_SIGHTS];
        private final int[] place = new int[MOST_SIGHTS];
        private final int[] high = new int[MOST_SIGHTS];

        void takeFrom(Sights other) {
            count = other.count;
            System.arraycopy(other.minute, 0, minute, 0, MOST_SIGHTS);
            System.arraycopy(other.place, 0, place, 0, MOST_SIGHTS);
            System.arraycopy(other.high, 0, high, 0, MOST_SIGHTS);
        }

        boolean note(int k, int spot, int height) {
            if (count >= MOST_SIGHTS) {
                return false;
            }
            minute[count] = k;
            place[count] = spot;
            high[count] = height;
            count++;
            return true;
        }

        boolean fitHeights(int reach, int top) {
            for (int i = 0; i < count; i++) {
                if (minute[i] > reach || heightBehind(minute[i], reach, top) != high[i]) {
                    return false;
                }
            }
            return true;
        }

        boolean fit(Flight flight) {
            for (int i = 0; i < count; i++) {
                int k = minute[i];
                if (k > flight.minutes || flight.spot[k] != place[i] || flight.high[k] != high[i]) {
                    return false;
                }
            }
            return true;
        }
    }

    /** All that an image keeps. */
    private static final class Kept {
        final World world = new World();
        final Throws listed = new Throws();
        final Sights sights = new Sights();
        boolean filled;

        void takeFrom(Kept other) {
            world.takeFrom(other.world);
            listed.takeFrom(other.listed);
            sights.takeFrom(other.sights);
        }
    }
}
