import java.util.Arrays;

/** A dome under which what is said at a place is heard at another one; README.md says how to use it. */
public final class WhisperDome {
    public static final int NONE = -1, UNKNOWN = -101, OUTSIDE = -102, STATE = -103, FULL = -104;

    private static final int PLACES = 8;
    private static final int MOST_PEOPLE = 6;
    private static final int MOST_TRIALS = 8;
    private static final int MOST_LETTERS = 20;
    private static final int MOST_SCREENS = 20;
    private static final int MOST_DAYS = 60;
    private static final int WORDS = 10;
    private static final int MARK_AT = PLACES;
    private static final int MINUTES_AT = PLACES + 1;
    private static final int DOME_LETTERS = PLACES + 1 + PLACES;

    private static final int PERSON = 0, DEAF = 1, GOSSIP = 2, MUTE = 3, CRIER = 4;

    private static final int PLACE_FACTS = 6;
    private static final int COUNTS = 8;

    private final int[] page = new int[MOST_LETTERS];
    private int letters = 0;
    private final Plan plan = new Plan();
    private final Scene now = new Scene();
    private final Scene kept = new Scene();
    /** What would be is tried on this copy, so that the scene itself stays as it is. */
    private final Scene dream = new Scene();
    private final Hearing hearing = new Hearing();
    private final Draws draws = new Draws();
    private final int[] hearersOf = new int[MOST_PEOPLE];
    private boolean hasImage = false;
    private int domesRead = 0;
    private int screensDone = 0;

    public WhisperDome() {
    }

    // ---- the dome

    public int letter(int code) {
        if (code < 1 || code > 126) {
            return OUTSIDE;
        }
        if (letters >= MOST_LETTERS) {
            return FULL;
        }
        page[letters] = code;
        letters++;
        return letters;
    }

    public int blank() {
        int had = letters;
        letters = 0;
        return had;
    }

    public int fault() {
        for (int at = 0; at < letters; at++) {
            if (!fitsDome(at, page[at])) {
                return at;
            }
        }
        return letters;
    }

    public int dome() {
        if (letters != DOME_LETTERS || fault() != DOME_LETTERS) {
            return STATE;
        }
        plan.read(page);
        now.clear();
        hasImage = false;
        domesRead++;
        letters = 0;
        return plan.heardElsewhere();
    }

    public int place(int place, int what) {
        if (!isPlace(place)) {
            return UNKNOWN;
        }
        switch (what) {
            case 0:
                return plan.heardAt[place];
            case 1:
                return plan.later[place];
            case 2:
                return hasBit(now.clothBits, place) ? 1 : 0;
            case 3:
                return now.peopleAt(place);
            case 4:
                return plan.rent(place);
            case 5:
                return plan.sources(place);
            default:
                return OUTSIDE;
        }
    }

    public int cloth(int place, boolean is) {
        if (!isPlace(place)) {
            return UNKNOWN;
        }
        int had = hasBit(now.clothBits, place) ? 1 : 0;
        now.clothBits = is ? now.clothBits | 1 << place : now.clothBits & ~(1 << place);
        return had;
    }

    // ---- people

    public int person(int kind, int place) {
        if (!isKind(kind)) {
            return OUTSIDE;
        }
        if (!isPlace(place)) {
            return UNKNOWN;
        }
        if (now.people >= MOST_PEOPLE) {
            return FULL;
        }
        return now.enter(kind, place);
    }

    public int about(int person, int what) {
        if (!isPerson(person)) {
            return UNKNOWN;
        }
        switch (what) {
            case 0:
                return now.kinds[person];
            case 1:
                return now.places[person];
            case 2:
                return now.known[person];
            case 3:
                return hearing.spread(plan, now, person);
            default:
                return OUTSIDE;
        }
    }

    public int as(int person, int kind) {
        if (!isPerson(person)) {
            return UNKNOWN;
        }
        if (!isKind(kind)) {
            return OUTSIDE;
        }
        return isOfKind(now.kinds[person], kind) ? person : NONE;
    }

    public int move(int person, int place) {
        if (!isPerson(person) || !isPlace(place)) {
            return UNKNOWN;
        }
        int was = now.places[person];
        now.places[person] = place;
        return was;
    }

    public int say(int person, int word) {
        if (!isPerson(person)) {
            return UNKNOWN;
        }
        if (word < 0 || word >= WORDS) {
            return OUTSIDE;
        }
        if (now.kinds[person] == MUTE) {
            return STATE;
        }
        now.said++;
        return tell(now, person, word);
    }

    public int hears(int from, int to) {
        if (!isPerson(from) || !isPerson(to)) {
            return UNKNOWN;
        }
        hearing.spread(plan, now, from);
        return hearing.minutes[to];
    }

    // ---- what would be

    public int screens(int from, int to, int what) {
        if (!isPair(from, to)) {
            return UNKNOWN;
        }
        if (what < 0 || what > 1) {
            return OUTSIDE;
        }
        if (screensDone >= MOST_SCREENS) {
            return STATE;
        }
        screensDone++;
        int which = leastScreens(from, to);
        return which == NONE || what == 1 ? which : Integer.bitCount(which);
    }

    public int stand(int a, int b) {
        if (!isPair(a, b)) {
            return UNKNOWN;
        }
        dream.copyFrom(now);
        for (int both = 0; both < PLACES * PLACES; both++) {
            dream.places[a] = both / PLACES;
            dream.places[b] = both % PLACES;
            if (areAlone(dream, a, b)) {
                return both;
            }
        }
        return NONE;
    }

    // ---- trials

    public int trial(int person, boolean heard) {
        if (!isPerson(person)) {
            return UNKNOWN;
        }
        if (now.trials >= MOST_TRIALS) {
            return FULL;
        }
        if (heard) {
            now.heardBits |= 1 << person;
        } else {
            now.unheardBits |= 1 << person;
        }
        now.trials++;
        return now.trials;
    }

    public int forget() {
        int had = now.trials;
        now.dropTrials();
        return had;
    }

    public int who() {
        return hasDome() ? suspects() : STATE;
    }

    public int ask() {
        return hasDome() ? bestToAsk(suspects()) : STATE;
    }

    public int days(int times, int seed, int what) {
        if (times < 1 || times > MOST_DAYS || seed < 0 || what < 0 || what > 2) {
            return OUTSIDE;
        }
        if (now.people == 0) {
            return STATE;
        }
        dream.copyFrom(now);
        draws.seed = seed;
        int learned = 0;
        for (int day = 0; day < times; day++) {
            learned += dreamDay();
        }
        if (what == 0) {
            return learned;
        }
        return what == 1 ? dream.wordsKnown() : (int) draws.seed;
    }

    // ---- what is told of all

    public int image() {
        if (!hasDome()) {
            return STATE;
        }
        kept.copyFrom(now);
        hasImage = true;
        return now.people;
    }

    public int restore() {
        if (!hasImage) {
            return STATE;
        }
        now.copyFrom(kept);
        return now.people;
    }

    public int count(int what) {
        switch (what) {
            case 0:
                return now.people;
            case 1:
                return Integer.bitCount(now.clothBits);
            case 2:
                return now.wordsKnown();
            case 3:
                return now.said;
            case 4:
                return now.trials;
            case 5:
                return letters;
            case 6:
                return domesRead;
            case 7:
                return screensDone;
            default:
                return OUTSIDE;
        }
    }

    public long digest() {
        long h = digestPlaces(937L);
        for (int person = 0; person < now.people; person++) {
            h = digestPerson(h, person);
        }
        if (hasDome()) {
            int bits = suspects();
            h = mix(h, bits);
            h = mix(h, bestToAsk(bits));
        }
        for (int at = 0; at < letters; at++) {
            h = mix(h, page[at]);
        }
        for (int what = 0; what < COUNTS; what++) {
            h = mix(h, count(what));
        }
        return h;
    }

    // ---- what a number names

    private boolean hasDome() {
        return domesRead > 0;
    }

    private boolean isPlace(int place) {
        return hasDome() && place >= 0 && place < PLACES;
    }

    private boolean isPerson(int person) {
        return person >= 0 && person < now.people;
    }

    private boolean isPair(int one, int other) {
        return isPerson(one) && isPerson(other) && one != other;
    }

    private static boolean isKind(int kind) {
        return kind >= PERSON && kind <= CRIER;
    }

    /** Everybody is a PERSON, and a CRIER is a GOSSIP, too. */
    private static boolean isOfKind(int own, int kind) {
        return kind == own || kind == PERSON || kind == GOSSIP && own == CRIER;
    }

    private static boolean hasBit(int bits, int at) {
        return (bits >> at & 1) == 1;
    }

    private static boolean fitsDome(int at, int code) {
        if (at < MARK_AT) {
            return code >= 'a' && code <= 'h';
        }
        if (at == MARK_AT) {
            return code == ';';
        }
        return at < DOME_LETTERS && code >= '0' && code <= '9';
    }

    // ---- parts of the calls

    private int tell(Scene scene, int speaker, int word) {
        return scene.learn(hearing.spread(plan, scene, speaker), word);
    }

    /** Sets are tried upward, so that of those with equally few places the least bits come first. */
    private int leastScreens(int from, int to) {
        int best = NONE;
        int fewest = PLACES + 1;
        dream.copyFrom(now);
        for (int more = 0; more < 1 << PLACES; more++) {
            int many = Integer.bitCount(more);
            if (many >= fewest || (more & now.clothBits) != 0) {
                continue;
            }
            dream.clothBits = now.clothBits | more;
            if (!hasBit(hearing.spread(plan, dream, from), to)) {
                best = more;
                fewest = many;
            }
        }
        return best;
    }

    private boolean areAlone(Scene scene, int a, int b) {
        int both = 1 << a | 1 << b;
        return hearing.spread(plan, scene, a) == both && hearing.spread(plan, scene, b) == both;
    }

    /** Leaves the hearers of each one in hearersOf, where bestToAsk finds them. */
    private int suspects() {
        int bits = 0;
        for (int person = 0; person < now.people; person++) {
            hearersOf[person] = hearing.spread(plan, now, person);
            if (now.kinds[person] != MUTE && now.agrees(hearersOf[person])) {
                bits |= 1 << person;
            }
        }
        return bits;
    }

    private int bestToAsk(int bits) {
        int best = NONE;
        int least = MOST_PEOPLE + 1;
        for (int asked = 0; bits != 0 && asked < now.people; asked++) {
            int left = leftAtWorst(bits, asked);
            if (left < least) {
                best = asked;
                least = left;
            }
        }
        return best;
    }

    private int leftAtWorst(int bits, int asked) {
        int ifHeard = 0;
        for (int person = 0; person < now.people; person++) {
            if (hasBit(bits, person) && hasBit(hearersOf[person], asked)) {
                ifHeard++;
            }
        }
        return Math.max(ifHeard, Integer.bitCount(bits) - ifHeard);
    }

    private int dreamDay() {
        int walker = draws.next(dream.people);
        dream.places[walker] = draws.next(PLACES);
        int speaker = draws.next(dream.people);
        int word = draws.next(WORDS);
        return dream.kinds[speaker] == MUTE ? 0 : tell(dream, speaker, word);
    }

    private static long mix(long h, long number) {
        return 31L * h + number;
    }

    private long digestPlaces(long start) {
        long h = start;
        for (int place = 0; hasDome() && place < PLACES; place++) {
            for (int what = 0; what < PLACE_FACTS; what++) {
                h = mix(h, place(place, what));
            }
        }
        return h;
    }

    private long digestPerson(long start, int person) {
        long h = mix(start, now.kinds[person]);
        h = mix(h, now.places[person]);
        h = mix(h, now.known[person]);
        h = mix(h, hearing.spread(plan, now, person));
        for (int to = 0; to < now.people; to++) {
            h = mix(h, hearing.minutes[to]);
        }
        return h;
    }

    /** Where each place is heard and how much later, as the text told it. */
    private static final class Plan {
        final int[] heardAt = new int[PLACES];
        final int[] later = new int[PLACES];

        void read(int[] text) {
            for (int place = 0; place < PLACES && MINUTES_AT + place < text.length; place++) {
                heardAt[place] = text[place] - 'a';
                later[place] = text[MINUTES_AT + place] - '0';
            }
        }

        int heardElsewhere() {
            int many = 0;
            for (int place = 0; place < PLACES; place++) {
                if (heardAt[place] != place) {
                    many++;
                }
            }
            return many;
        }

        int sources(int place) {
            int bits = 0;
            for (int from = 0; from < PLACES; from++) {
                if (heardAt[from] == place) {
                    bits |= 1 << from;
                }
            }
            return bits;
        }

        int rent(int place) {
            int bits = sources(place);
            int many = Integer.bitCount(bits);
            return hasBit(bits, place) ? 2 * many : many;
        }
    }

    /** All that an image keeps; the first so many of each row are in use. */
    private static final class Scene {
        int people = 0;
        final int[] kinds = new int[MOST_PEOPLE];
        final int[] places = new int[MOST_PEOPLE];
        final int[] known = new int[MOST_PEOPLE];
        int clothBits = 0;
        int said = 0;
        int trials = 0;
        int heardBits = 0;
        int unheardBits = 0;

        void clear() {
            people = 0;
            clothBits = 0;
            said = 0;
            dropTrials();
        }

        void dropTrials() {
            trials = 0;
            heardBits = 0;
            unheardBits = 0;
        }

        void copyFrom(Scene other) {
            people = other.people;
            for (int person = 0; person < other.people; person++) {
                kinds[person] = other.kinds[person];
                places[person] = other.places[person];
                known[person] = other.known[person];
            }
            clothBits = other.clothBits;
            said = other.said;
            trials = other.trials;
            heardBits = other.heardBits;
            unheardBits = other.unheardBits;
        }

        int enter(int kind, int place) {
            int number = people;
            kinds[number] = kind;
            places[number] = place;
            known[number] = 0;
            people++;
            return number;
        }

        int peopleAt(int place) {
            int bits = 0;
            for (int person = 0; person < people; person++) {
                if (places[person] == place) {
                    bits |= 1 << person;
                }
            }
            return bits;
        }

        /** How many of the hearers did not know the word until now. */
        int learn(int hearers, int word) {
            int fresh = 0;
            for (int person = 0; person < people; person++) {
                if (hasBit(hearers, person) && !hasBit(known[person], word)) {
                    known[person] |= 1 << word;
                    fresh++;
                }
            }
            return fresh;
        }

        int wordsKnown() {
            int many = 0;
            for (int person = 0; person < people; person++) {
                many += Integer.bitCount(known[person]);
            }
            return many;
        }

        /** Whether all trials would be so, had just these heard it. */
        boolean agrees(int hearers) {
            return (hearers & heardBits) == heardBits && (hearers & unheardBits) == 0;
        }
    }

    /** How one saying spreads: the last spread's minutes stay to be read. */
    private static final class Hearing {
        final int[] minutes = new int[MOST_PEOPLE];
        private int hearers = 0;
        /** Who has heard it, will say it, and has not yet said it. */
        private int waiting = 0;

        /** Who hears it, as bits. What anybody knew before plays no part: each saying is heard alike. */
        int spread(Plan plan, Scene scene, int speaker) {
            Arrays.fill(minutes, NONE);
            if (scene.kinds[speaker] == MUTE) {
                return 0;
            }
            minutes[speaker] = 0;
            hearers = 1 << speaker;
            waiting = 1 << speaker;
            for (int turn = 0; turn < scene.people && waiting != 0; turn++) {
                int next = earliestWaiting(scene.people);
                waiting &= ~(1 << next);
                utter(plan, scene, next);
            }
            return hearers;
        }

        /** The earliest one first: nobody who comes later can reach him sooner. */
        private int earliestWaiting(int people) {
            int best = 0;
            boolean found = false;
            for (int person = 0; person < people; person++) {
                if (hasBit(waiting, person) && (!found || minutes[person] < minutes[best])) {
                    best = person;
                    found = true;
                }
            }
            return best;
        }

        private void utter(Plan plan, Scene scene, int speaker) {
            int here = scene.places[speaker];
            int there = plan.heardAt[here];
            boolean carries = scene.kinds[speaker] == CRIER || !hasBit(scene.clothBits, there);
            for (int person = 0; person < scene.people; person++) {
                if (scene.kinds[person] == DEAF) {
                    continue;
                }
                if (scene.places[person] == here) {
                    reach(scene, person, minutes[speaker]);
                } else if (carries && scene.places[person] == there) {
                    reach(scene, person, minutes[speaker] + plan.later[here]);
                }
            }
        }

        private void reach(Scene scene, int person, int when) {
            if (hasBit(hearers, person) && minutes[person] <= when) {
                return;
            }
            minutes[person] = when;
            hearers |= 1 << person;
            if (isOfKind(scene.kinds[person], GOSSIP)) {
                waiting |= 1 << person;
            }
        }
    }

    /** The seed and what is drawn by it. */
    private static final class Draws {
        long seed = 0L;

        int next(int of) {
            seed = (1103515245L * seed + 12345L) % 2147483648L;
            return of > 0 ? (int) (seed / 65536L % of) : 0;
        }
    }
}
