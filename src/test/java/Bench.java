import java.util.ArrayList;
import java.util.List;
import java.util.function.LongSupplier;
import java.util.function.Supplier;

/** What the tests by promise share: domes, objects in known states, and how an answer is held to what is due. */
abstract class Bench {
    static final int NONE = -1, UNKNOWN = -101, OUTSIDE = -102, STATE = -103, FULL = -104;
    static final int PERSON = 0, DEAF = 1, GOSSIP = 2, MUTE = 3, CRIER = 4;
    static final int MIN = Integer.MIN_VALUE, MAX = Integer.MAX_VALUE;

    /** Place p is heard at the next one, p + 1 minutes later. */
    static final String RING = "bcdefgha;12345678";
    /** Each place is heard at itself alone. */
    static final String SELF = "abcdefgh;00000000";
    /** 0 and 1 are heard at each other, 2 and 3, and so on. */
    static final String PAIRS = "badcfehg;33333333";
    /** All are heard at place 0. */
    static final String ALL = "aaaaaaaa;01234567";

    static final Due due = new Due();

    /** A call on an object that is not made yet. */
    interface Call {
        long on(WhisperDome x);
    }

    // ---- objects in known states

    static WhisperDome type(WhisperDome x, String text) {
        for (char letter : text.toCharArray()) {
            x.letter(letter);
        }
        return x;
    }

    static WhisperDome typed(String text) {
        return type(new WhisperDome(), text);
    }

    /** Pairs of kind and place. */
    static WhisperDome under(String text, int... kindsAndPlaces) {
        WhisperDome x = typed(text);
        x.dome();
        for (int at = 0; at + 1 < kindsAndPlaces.length; at += 2) {
            x.person(kindsAndPlaces[at], kindsAndPlaces[at + 1]);
        }
        return x;
    }

    /** A new object: no DOME. */
    static WhisperDome bare() {
        return new WhisperDome();
    }

    /** No DOME, but a page with no room left. */
    static WhisperDome fullPage() {
        return typed("abcdefgh;01234567890");
    }

    /** A DOME and nobody under it. */
    static WhisperDome empty() {
        return under(RING);
    }

    /** Three people (2 is MUTE), and something of all that can be, with room for more; its image is another state. */
    static WhisperDome busy() {
        WhisperDome x = under(RING, PERSON, 0);
        x.say(0, 5);
        x.cloth(6, true);
        x.trial(0, true);
        x.image();
        x.person(GOSSIP, 1);
        x.person(MUTE, 2);
        x.say(0, 3);
        x.cloth(3, true);
        x.move(0, 7);
        x.trial(1, false);
        x.screens(1, 2, 0);
        return type(x, "ab;");
    }

    /** No room for anything more: 6 people (3 is MUTE), 8 trials, 20 letters, 20 screens, all 8 cloth. */
    static WhisperDome full() {
        WhisperDome x = under(RING, PERSON, 0, DEAF, 1, GOSSIP, 1, MUTE, 2, CRIER, 2, PERSON, 3);
        x.say(0, 0);
        x.say(4, 9);
        x.image();
        for (int many = 0; many < 8; many++) {
            x.trial(many % 2 * 5, true);
            x.cloth(many, true);
        }
        for (int many = 0; many < 20; many++) {
            x.screens(0, 5, many % 2);
        }
        return type(x, RING + "abc");
    }

    // ---- what is due

    static void is(String call, long got, long want) {
        due.is(call, got, want);
    }

    /** The answer that is due, and all is as it was. */
    static void still(WhisperDome x, String call, LongSupplier asked, long want) {
        long before = x.digest();
        is(call, asked.getAsLong(), want);
        is("digest behind " + call, x.digest(), before);
    }

    /** Two alike are made, one is asked; then no call may tell them apart. */
    static void unchanged(Supplier<WhisperDome> state, String call, Call asked, long want) {
        WhisperDome x = state.get();
        is(call, asked.on(x), want);
        List<String> got = told(x);
        List<String> wanted = told(state.get());
        for (int at = 0; at < wanted.size(); at++) {
            due.same("behind " + call, got.get(at), wanted.get(at));
        }
    }

    static long mixed(long... numbers) {
        long h = 937;
        for (long number : numbers) {
            h = 31 * h + number;
        }
        return h;
    }

    /** All that any call tells of x. Calls that change something come last, so x is not to be used behind this. */
    private static List<String> told(WhisperDome x) {
        List<String> all = new ArrayList<>();
        toldOfPlaces(x, all);
        toldOfPeople(x, all);
        all.add("who() " + x.who());
        all.add("ask() " + x.ask());
        for (int what = 0; what < 3; what++) {
            all.add("days(9, 77, " + what + ") " + x.days(9, 77, what));
        }
        toldOfAll(x, all);
        all.add("screens(0, 1, 1) " + x.screens(0, 1, 1));
        all.add("screens(1, 2, 0) " + x.screens(1, 2, 0));
        all.add("restore() " + x.restore());
        toldOfAll(x, all);
        all.add("forget() " + x.forget());
        all.add("letter(97) " + x.letter('a'));
        all.add("blank() " + x.blank());
        all.add("image() " + x.image());
        toldOfAll(x, all);
        return all;
    }

    private static void toldOfPlaces(WhisperDome x, List<String> all) {
        for (int place = 0; place < 8; place++) {
            for (int what = 0; what < 6; what++) {
                all.add("place(" + place + ", " + what + ") " + x.place(place, what));
            }
        }
    }

    private static void toldOfPeople(WhisperDome x, List<String> all) {
        for (int one = 0; one < 6; one++) {
            for (int what = 0; what < 4; what++) {
                all.add("about(" + one + ", " + what + ") " + x.about(one, what));
            }
            for (int kind = 0; kind < 5; kind++) {
                all.add("as(" + one + ", " + kind + ") " + x.as(one, kind));
            }
            for (int other = 0; other < 6; other++) {
                all.add("hears(" + one + ", " + other + ") " + x.hears(one, other));
                all.add("stand(" + one + ", " + other + ") " + x.stand(one, other));
            }
        }
    }

    private static void toldOfAll(WhisperDome x, List<String> all) {
        all.add("fault() " + x.fault());
        for (int what = 0; what < 8; what++) {
            all.add("count(" + what + ") " + x.count(what));
        }
        all.add("digest() " + x.digest());
    }
}
