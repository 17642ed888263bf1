import java.util.function.LongSupplier;

/** Each promise of the document by answers worked out by hand: ordinary calls, edges, and wrong inputs. */
public final class PromiseTest {
    private static final int NONE = -1, UNKNOWN = -101, OUTSIDE = -102, STATE = -103, FULL = -104;
    private static final int PERSON = 0, DEAF = 1, GOSSIP = 2, MUTE = 3, CRIER = 4;
    private static final int MIN = Integer.MIN_VALUE, MAX = Integer.MAX_VALUE;

    /** Place p is heard at the next one, p + 1 minutes later. */
    private static final String RING = "bcdefgha;12345678";
    /** Each place is heard at itself alone. */
    private static final String SELF = "abcdefgh;00000000";
    /** 0 and 1 are heard at each other, 2 and 3, and so on. */
    private static final String PAIRS = "badcfehg;33333333";
    /** All are heard at place 0. */
    private static final String ALL = "aaaaaaaa;01234567";

    private static final Due due = new Due();

    public static void main(String[] args) {
        newObject();
        letter();
        blank();
        fault();
        dome();
        domeAnew();
        place();
        cloth();
        person();
        about();
        as();
        move();
        say();
        sayAgain();
        hears();
        hearsByCriers();
        hearsRound();
        screens();
        screensLimit();
        stand();
        trial();
        forget();
        who();
        ask();
        days();
        daysOfThree();
        daysChangeNothing();
        image();
        restore();
        count();
        digest();
        wrongWithoutDome();
        due.end("PromiseTest");
    }

    // ---- helpers

    private static void type(WhisperDome x, String text) {
        for (char letter : text.toCharArray()) {
            x.letter(letter);
        }
    }

    private static WhisperDome under(String text) {
        WhisperDome x = new WhisperDome();
        type(x, text);
        x.dome();
        return x;
    }

    /** Pairs of kind and place. */
    private static WhisperDome under(String text, int... kindsAndPlaces) {
        WhisperDome x = under(text);
        for (int at = 0; at + 1 < kindsAndPlaces.length; at += 2) {
            x.person(kindsAndPlaces[at], kindsAndPlaces[at + 1]);
        }
        return x;
    }

    private static void is(String call, long got, long want) {
        due.is(call, got, want);
    }

    /** The answer that is due, and all is as it was. */
    private static void still(WhisperDome x, String call, LongSupplier asked, long want) {
        long before = x.digest();
        is(call, asked.getAsLong(), want);
        is("digest behind " + call, x.digest(), before);
    }

    private static long mixed(long... numbers) {
        long h = 937;
        for (long number : numbers) {
            h = 31 * h + number;
        }
        return h;
    }

    // ---- promise 1

    private static void newObject() {
        WhisperDome x = new WhisperDome();
        for (int what = 0; what < 8; what++) {
            is("1: count(" + what + ")", x.count(what), 0);
        }
        is("1: fault()", x.fault(), 0);
        is("1: digest()", x.digest(), mixed(0, 0, 0, 0, 0, 0, 0, 0));
    }

    private static void wrongWithoutDome() {
        WhisperDome x = new WhisperDome();
        still(x, "1: dome()", x::dome, STATE);
        still(x, "1: place(0, 0)", () -> x.place(0, 0), UNKNOWN);
        still(x, "1: place(0, 9)", () -> x.place(0, 9), UNKNOWN);
        still(x, "1: cloth(0, true)", () -> x.cloth(0, true), UNKNOWN);
        still(x, "1: person(0, 0)", () -> x.person(0, 0), UNKNOWN);
        still(x, "1: person(5, 0)", () -> x.person(5, 0), OUTSIDE);
        still(x, "1: about(0, 0)", () -> x.about(0, 0), UNKNOWN);
        still(x, "1: as(0, 0)", () -> x.as(0, 0), UNKNOWN);
        still(x, "1: move(0, 0)", () -> x.move(0, 0), UNKNOWN);
        still(x, "1: say(0, 0)", () -> x.say(0, 0), UNKNOWN);
        still(x, "1: hears(0, 0)", () -> x.hears(0, 0), UNKNOWN);
        still(x, "1: screens(0, 1, 0)", () -> x.screens(0, 1, 0), UNKNOWN);
        still(x, "1: stand(0, 1)", () -> x.stand(0, 1), UNKNOWN);
        still(x, "1: trial(0, true)", () -> x.trial(0, true), UNKNOWN);
        still(x, "1: forget()", x::forget, 0);
        still(x, "1: who()", x::who, STATE);
        still(x, "1: ask()", x::ask, STATE);
        still(x, "1: days(1, 1, 0)", () -> x.days(1, 1, 0), STATE);
        still(x, "1: image()", x::image, STATE);
        still(x, "1: restore()", x::restore, STATE);
    }

    // ---- promises 2 to 7: the dome

    private static void letter() {
        WhisperDome x = new WhisperDome();
        for (int code : new int[] {0, 127, -1, 128, MIN, MAX}) {
            still(x, "2: letter(" + code + ")", () -> x.letter(code), OUTSIDE);
        }
        is("2: letter(1)", x.letter(1), 1);
        is("2: letter(126)", x.letter(126), 2);
        for (int many = 3; many <= 20; many++) {
            is("2: letter(97), the " + many + "th", x.letter(97), many);
        }
        still(x, "2: the 21st", () -> x.letter(97), FULL);
        still(x, "2: the 21st, outside", () -> x.letter(0), OUTSIDE);
        is("2: count(5)", x.count(5), 20);
    }

    private static void blank() {
        WhisperDome x = new WhisperDome();
        is("3: blank()", x.blank(), 0);
        type(x, "abc");
        is("3: blank() of three", x.blank(), 3);
        is("3: blank() again", x.blank(), 0);
        is("3: letter(97) behind blank()", x.letter(97), 1);
    }

    private static int faultOf(String text) {
        WhisperDome x = new WhisperDome();
        type(x, text);
        return x.fault();
    }

    private static void fault() {
        for (int end = 0; end <= 17; end++) {
            is("4: fault() of the first " + end, faultOf(RING.substring(0, end)), end);
        }
        for (int at = 0; at < 17; at++) {
            String wrong = at < 8 ? "`iAH0;" : at == 8 ? ":<a0" : "/:;a";
            for (char letter : wrong.toCharArray()) {
                is("4: fault() by " + letter + " at " + at, faultOf(RING.substring(0, at) + letter), at);
                is("4: fault() by " + letter + " within, at " + at,
                        faultOf(RING.substring(0, at) + letter + RING.substring(at + 1)), at);
            }
        }
        is("4: fault() of the ends", faultOf("ahahahah;09090909"), 17);
        is("4: fault() of one letter too many", faultOf(RING + "0"), 17);
        is("4: fault() of three too many", faultOf(RING + ";;;"), 17);
    }

    private static void dome() {
        for (String text : new String[] {"", "abcdefgh;0000000", SELF + "0", "abcdefgi;00000000", "abcdefgh:00000000"}) {
            WhisperDome x = new WhisperDome();
            type(x, text);
            still(x, "5: dome() of " + text, x::dome, STATE);
            is("5: the page stays", x.count(5), text.length());
        }
        String[] texts = {RING, SELF, PAIRS, ALL, "bacdefgh;90000000"};
        int[] elsewhere = {8, 0, 8, 7, 2};
        for (int i = 0; i < texts.length; i++) {
            WhisperDome x = new WhisperDome();
            type(x, texts[i]);
            is("5: dome() of " + texts[i], x.dome(), elsewhere[i]);
            is("5: the page is empty", x.count(5), 0);
            is("5: a DOME was read", x.count(6), 1);
        }
    }

    private static void domeAnew() {
        WhisperDome x = under(RING, PERSON, 0, PERSON, 1);
        x.say(0, 3);
        x.cloth(4, true);
        x.trial(0, true);
        x.screens(0, 1, 0);
        x.image();
        type(x, ALL + "0");
        still(x, "5: a wrong one", x::dome, STATE);
        is("5: people stay", x.count(0), 2);
        x.blank();
        type(x, ALL);
        is("5: another one", x.dome(), 7);
        int[] left = {0, 0, 0, 0, 0, 0, 2, 1};
        for (int what = 0; what < 8; what++) {
            is("5: count(" + what + ") under another DOME", x.count(what), left[what]);
        }
        is("5: the image is gone", x.restore(), STATE);
        is("5: it is another", x.place(3, 0), 0);
        is("5: no cloth", x.place(4, 2), 0);
        is("5: people anew", x.person(GOSSIP, 2), 0);
        is("5: he knows nothing", x.about(0, 2), 0);
        is("5: no trials", x.who(), 1);
    }

    private static void place() {
        WhisperDome x = under("bbdaaaaa;90817263", PERSON, 1, DEAF, 7, MUTE, 1);
        x.cloth(2, true);
        int[] heardAt = {1, 1, 3, 0, 0, 0, 0, 0};
        int[] later = {9, 0, 8, 1, 7, 2, 6, 3};
        int[] hung = {0, 0, 1, 0, 0, 0, 0, 0};
        int[] there = {0, 5, 0, 0, 0, 0, 0, 2};
        int[] rent = {5, 4, 0, 1, 0, 0, 0, 0};
        int[] from = {248, 3, 0, 4, 0, 0, 0, 0};
        int[][] facts = {heardAt, later, hung, there, rent, from};
        for (int p = 0; p < 8; p++) {
            for (int what = 0; what < 6; what++) {
                is("6: place(" + p + ", " + what + ")", x.place(p, what), facts[what][p]);
            }
        }
        for (int p : new int[] {-1, 8, MIN, MAX}) {
            still(x, "6: place(" + p + ", 0)", () -> x.place(p, 0), UNKNOWN);
            still(x, "6: place(" + p + ", 6)", () -> x.place(p, 6), UNKNOWN);
        }
        for (int what : new int[] {-1, 6, MIN, MAX}) {
            still(x, "6: place(0, " + what + ")", () -> x.place(0, what), OUTSIDE);
        }
        is("6: all at one", under(ALL).place(0, 4), 16);
    }

    private static void cloth() {
        WhisperDome x = under(RING);
        is("7: cloth(7, true)", x.cloth(7, true), 0);
        is("7: cloth(7, true) again", x.cloth(7, true), 1);
        is("7: cloth(0, false)", x.cloth(0, false), 0);
        is("7: it has", x.place(7, 2), 1);
        is("7: no other has", x.count(1), 1);
        is("7: cloth(7, false)", x.cloth(7, false), 1);
        is("7: it has not", x.place(7, 2), 0);
        is("7: cloth(7, false) again", x.cloth(7, false), 0);
        for (int p : new int[] {-1, 8, MIN, MAX}) {
            still(x, "7: cloth(" + p + ", true)", () -> x.cloth(p, true), UNKNOWN);
        }
    }

    // ---- promises 8 to 13: people

    private static void person() {
        WhisperDome x = under(RING);
        for (int kind : new int[] {-1, 5, MIN, MAX}) {
            still(x, "8: person(" + kind + ", 0)", () -> x.person(kind, 0), OUTSIDE);
            still(x, "8: person(" + kind + ", 8)", () -> x.person(kind, 8), OUTSIDE);
        }
        for (int p : new int[] {-1, 8, MIN, MAX}) {
            still(x, "8: person(0, " + p + ")", () -> x.person(0, p), UNKNOWN);
        }
        for (int number = 0; number < 6; number++) {
            is("8: person, number " + number, x.person(number % 5, 7 - number), number);
            is("8: his kind", x.about(number, 0), number % 5);
            is("8: his place", x.about(number, 1), 7 - number);
            is("8: he knows nothing", x.about(number, 2), 0);
        }
        still(x, "8: the seventh", () -> x.person(0, 0), FULL);
        still(x, "8: the seventh, outside", () -> x.person(5, 0), OUTSIDE);
        still(x, "8: the seventh, nowhere", () -> x.person(0, 8), UNKNOWN);
    }

    private static void about() {
        WhisperDome x = under(RING, PERSON, 0, GOSSIP, 1, DEAF, 1, MUTE, 2, CRIER, 2, PERSON, 3);
        int[] hearers = {0b111011, 0b111010, 0b111110, 0, 0b111000, 0b100000};
        for (int i = 0; i < 6; i++) {
            is("9: about(" + i + ", 3)", x.about(i, 3), hearers[i]);
        }
        is("9: about(4, 0)", x.about(4, 0), 4);
        is("9: about(4, 1)", x.about(4, 1), 2);
        x.say(5, 0);
        x.say(5, 9);
        is("9: about(5, 2)", x.about(5, 2), 0b1000000001);
        for (int i : new int[] {-1, 6, MIN, MAX}) {
            still(x, "9: about(" + i + ", 0)", () -> x.about(i, 0), UNKNOWN);
            still(x, "9: about(" + i + ", 4)", () -> x.about(i, 4), UNKNOWN);
        }
        for (int what : new int[] {-1, 4, MIN, MAX}) {
            still(x, "9: about(0, " + what + ")", () -> x.about(0, what), OUTSIDE);
        }
        still(x, "9: about(0, 3) changes nothing", () -> x.about(0, 3), 0b111011);
    }

    private static void as() {
        WhisperDome x = under(RING, PERSON, 0, DEAF, 0, GOSSIP, 0, MUTE, 0, CRIER, 0);
        int[] kindsOf = {0b00001, 0b00011, 0b00101, 0b01001, 0b10101};
        for (int i = 0; i < 5; i++) {
            for (int kind = 0; kind < 5; kind++) {
                is("10: as(" + i + ", " + kind + ")", x.as(i, kind), (kindsOf[i] >> kind & 1) == 1 ? i : NONE);
            }
        }
        for (int i : new int[] {-1, 5, MIN, MAX}) {
            still(x, "10: as(" + i + ", 0)", () -> x.as(i, 0), UNKNOWN);
            still(x, "10: as(" + i + ", 5)", () -> x.as(i, 5), UNKNOWN);
            still(x, "10: as(0, " + i + ")", () -> x.as(0, i), OUTSIDE);
        }
    }

    private static void move() {
        WhisperDome x = under(RING, PERSON, 3, PERSON, 3);
        is("11: move(1, 7)", x.move(1, 7), 3);
        is("11: where he is", x.about(1, 1), 7);
        is("11: the other one stays", x.about(0, 1), 3);
        is("11: who is there", x.place(7, 3), 2);
        is("11: move(1, 7) again", x.move(1, 7), 7);
        is("11: move(1, 0)", x.move(1, 0), 7);
        for (int i : new int[] {-1, 2, MIN, MAX}) {
            still(x, "11: move(" + i + ", 0)", () -> x.move(i, 0), UNKNOWN);
        }
        for (int p : new int[] {-1, 8, MIN, MAX}) {
            still(x, "11: move(0, " + p + ")", () -> x.move(0, p), UNKNOWN);
        }
    }

    private static void say() {
        WhisperDome x = under(RING, PERSON, 0, PERSON, 1, DEAF, 1, MUTE, 1, PERSON, 2);
        is("12: say(0, 0)", x.say(0, 0), 3);
        is("12: say(0, 0) again", x.say(0, 0), 0);
        is("12: say(1, 0)", x.say(1, 0), 1);
        is("12: a deaf one says", x.say(2, 9), 4);
        is("12: how often", x.count(3), 4);
        int[] known = {0b1, 0b1000000001, 0b1000000000, 0b1000000001, 0b1000000001};
        for (int i = 0; i < 5; i++) {
            is("12: what " + i + " knows", x.about(i, 2), known[i]);
        }
        for (int i : new int[] {-1, 5, MIN, MAX}) {
            still(x, "12: say(" + i + ", 0)", () -> x.say(i, 0), UNKNOWN);
            still(x, "12: say(" + i + ", 10)", () -> x.say(i, 10), UNKNOWN);
        }
        for (int word : new int[] {-1, 10, MIN, MAX}) {
            still(x, "12: say(0, " + word + ")", () -> x.say(0, word), OUTSIDE);
            still(x, "12: mute, say(3, " + word + ")", () -> x.say(3, word), OUTSIDE);
        }
        still(x, "12: a mute one", () -> x.say(3, 1), STATE);
    }

    /** As the class reads the document: each saying is handed on alike, whoever knew the word before. */
    private static void sayAgain() {
        WhisperDome x = under(RING, PERSON, 0, GOSSIP, 1, PERSON, 5);
        is("12: say(0, 4), nobody behind the gossip", x.say(0, 4), 2);
        x.move(2, 2);
        is("12: say(0, 4), one behind the gossip", x.say(0, 4), 1);
        is("12: each saying counts once", x.count(3), 2);
    }

    private static void hears() {
        WhisperDome x = under(RING, PERSON, 0, GOSSIP, 1, PERSON, 2, GOSSIP, 2, DEAF, 3, MUTE, 3);
        int[][] minutes = {
            {0, 1, 3, 3, NONE, 6},
            {NONE, 0, 2, 2, NONE, 5},
            {NONE, NONE, 0, 0, NONE, 3},
            {NONE, NONE, 0, 0, NONE, 3},
            {NONE, NONE, NONE, NONE, 0, 0},
            {NONE, NONE, NONE, NONE, NONE, NONE}};
        for (int from = 0; from < 6; from++) {
            for (int to = 0; to < 6; to++) {
                is("13: hears(" + from + ", " + to + ")", x.hears(from, to), minutes[from][to]);
            }
        }
        x.cloth(2, true);
        is("13: cloth on the way", x.hears(0, 5), NONE);
        is("13: ahead of the cloth", x.hears(0, 1), 1);
        is("13: at the cloth itself", x.hears(2, 3), 0);
        is("13: from the cloth", x.hears(2, 5), 3);
        for (int i : new int[] {-1, 6, MIN, MAX}) {
            still(x, "13: hears(" + i + ", 0)", () -> x.hears(i, 0), UNKNOWN);
            still(x, "13: hears(0, " + i + ")", () -> x.hears(0, i), UNKNOWN);
        }
    }

    private static void hearsByCriers() {
        WhisperDome x = under(RING, CRIER, 0, GOSSIP, 1, PERSON, 2, PERSON, 0);
        x.cloth(1, true);
        x.cloth(2, true);
        is("13: a crier, in spite of cloth", x.hears(0, 1), 1);
        is("13: a gossip hands on as himself", x.hears(0, 2), NONE);
        is("13: a person, but a crier beside him", x.hears(3, 1), 1);
        x.person(CRIER, 1);
        is("13: a crier hands on in spite of cloth", x.hears(0, 2), 3);
        is("13: by two criers", x.hears(3, 2), 3);
        x.cloth(1, false);
        x.cloth(2, false);
        is("13: without cloth alike", x.hears(0, 2), 3);
    }

    private static void hearsRound() {
        WhisperDome x = under("baaaaaaa;92345678", GOSSIP, 0, GOSSIP, 1, PERSON, 0, PERSON, 1);
        is("13: there", x.hears(0, 3), 9);
        is("13: and back, but at once", x.hears(0, 2), 0);
        is("13: from the other side", x.hears(3, 2), 2);
        is("13: himself, not round", x.hears(1, 1), 0);
        WhisperDome self = under("abcdefgh;99999999", PERSON, 0, PERSON, 0);
        self.cloth(0, true);
        is("13: heard at itself: at once, in spite of cloth", self.hears(0, 1), 0);
    }

    // ---- promises 14 and 15: what would be

    private static void screens() {
        WhisperDome x = under(RING, PERSON, 0, GOSSIP, 1, PERSON, 2, CRIER, 0, MUTE, 0, DEAF, 2);
        x.move(3, 7);
        is("14: how few", x.screens(0, 2, 0), 1);
        is("14: which, the least", x.screens(0, 2, 1), 2);
        is("14: the crier's own way can't be cut", x.screens(3, 0, 0), NONE);
        is("14: nor told as bits", x.screens(3, 0, 1), NONE);
        is("14: a mute one is not heard", x.screens(4, 0, 0), 0);
        is("14: a deaf one hears not", x.screens(1, 5, 1), 0);
        is("14: two at one place", x.screens(0, 4, 0), NONE);
        x.move(3, 0);
        is("14: behind a crier", x.screens(0, 2, 1), 4);
        x.cloth(1, true);
        is("14: cloth there is not counted", x.screens(0, 2, 1), 4);
        x.cloth(2, true);
        is("14: none more", x.screens(0, 2, 0), 0);
        is("14: none more, as bits", x.screens(0, 2, 1), 0);
        is("14: cloth is as it was", x.count(1), 2);
        is("14: how often", x.count(7), 11);
    }

    private static void screensLimit() {
        WhisperDome x = under(RING, PERSON, 0, PERSON, 1);
        for (int i : new int[] {-1, 2, MIN, MAX}) {
            still(x, "14: screens(" + i + ", 0, 2)", () -> x.screens(i, 0, 2), UNKNOWN);
            still(x, "14: screens(0, " + i + ", 0)", () -> x.screens(0, i, 0), UNKNOWN);
            still(x, "14: screens(0, 1, " + i + ")", () -> x.screens(0, 1, i), OUTSIDE);
        }
        still(x, "14: the same", () -> x.screens(1, 1, 0), UNKNOWN);
        for (int many = 1; many <= 20; many++) {
            is("14: time " + many, x.screens(0, 1, many % 2), many % 2 == 0 ? 1 : 2);
        }
        still(x, "14: time 21", () -> x.screens(0, 1, 0), STATE);
        still(x, "14: time 21, outside", () -> x.screens(0, 1, 2), OUTSIDE);
        still(x, "14: time 21, the same", () -> x.screens(0, 0, 2), UNKNOWN);
        is("14: how often", x.count(7), 20);
    }

    private static void stand() {
        is("15: nobody else", under(SELF, PERSON, 5, PERSON, 6).stand(0, 1), 0);
        is("15: one there", under(SELF, PERSON, 5, PERSON, 6, PERSON, 0).stand(1, 0), 9);
        is("15: a deaf one there", under(SELF, PERSON, 5, PERSON, 6, DEAF, 0).stand(0, 1), 0);
        is("15: a mute one there", under(SELF, PERSON, 5, PERSON, 6, MUTE, 0).stand(0, 1), 9);
        is("15: a deaf one of the two", under(SELF, PERSON, 5, DEAF, 6).stand(0, 1), NONE);
        is("15: a mute one of the two", under(SELF, MUTE, 5, PERSON, 6).stand(0, 1), NONE);
        is("15: one is heard by", under(PAIRS, PERSON, 5, PERSON, 6, PERSON, 0).stand(0, 1), 18);
        WhisperDome x = under(PAIRS, PERSON, 5, CRIER, 6, PERSON, 0, PERSON, 5);
        x.cloth(0, true);
        is("15: a person behind cloth", x.stand(0, 3), 9);
        is("15: a crier is heard behind cloth", x.stand(1, 0), 18);
        WhisperDome y = under(PAIRS, PERSON, 5, GOSSIP, 6, PERSON, 0);
        y.cloth(0, true);
        is("15: cloth keeps the other one out", y.stand(0, 1), 9);
        is("15: all are heard where one is", under(ALL, PERSON, 5, PERSON, 6, PERSON, 0).stand(0, 1), NONE);
        WhisperDome z = under(RING, PERSON, 5, PERSON, 6, PERSON, 1);
        still(z, "15: nothing is changed", () -> z.stand(0, 1), 18);
        for (int i : new int[] {-1, 3, MIN, MAX}) {
            still(z, "15: stand(" + i + ", 0)", () -> z.stand(i, 0), UNKNOWN);
            still(z, "15: stand(0, " + i + ")", () -> z.stand(0, i), UNKNOWN);
        }
        still(z, "15: the same", () -> z.stand(2, 2), UNKNOWN);
    }

    // ---- promises 16 to 20: trials

    private static void trial() {
        WhisperDome x = under(RING, PERSON, 0, MUTE, 1);
        for (int i : new int[] {-1, 2, MIN, MAX}) {
            still(x, "16: trial(" + i + ", true)", () -> x.trial(i, true), UNKNOWN);
        }
        for (int many = 1; many <= 8; many++) {
            is("16: trial " + many, x.trial(many % 2, true), many);
        }
        still(x, "16: the ninth", () -> x.trial(0, false), FULL);
        still(x, "16: the ninth, of nobody", () -> x.trial(2, false), UNKNOWN);
        is("16: how many", x.count(4), 8);
        is("16: who", x.who(), 1);
    }

    private static void forget() {
        WhisperDome x = under(RING, PERSON, 0);
        x.trial(0, true);
        x.trial(0, false);
        is("17: contradicted", x.who(), 0);
        is("17: forget()", x.forget(), 2);
        is("17: forget() again", x.forget(), 0);
        is("17: all can have", x.who(), 1);
        is("17: trial anew", x.trial(0, false), 1);
        is("17: of himself it is told that he heard", x.who(), 0);
    }

    private static void who() {
        WhisperDome x = under(RING, PERSON, 0, PERSON, 1, PERSON, 2, PERSON, 3);
        is("18: all", x.who(), 15);
        x.trial(1, true);
        is("18: by one", x.who(), 3);
        x.trial(0, false);
        is("18: by two", x.who(), 2);
        x.trial(2, false);
        is("18: nobody", x.who(), 0);
        x.cloth(2, true);
        is("18: by cloth as it is now", x.who(), 2);
        x.forget();
        x.person(MUTE, 0);
        x.person(DEAF, 0);
        is("18: no mute one", x.who(), 0b101111);
        x.trial(5, true);
        is("18: a deaf one heard but himself", x.who(), 0b100000);
        is("18: nobody is there", under(RING).who(), 0);
        still(x, "18: nothing is changed", x::who, 0b100000);
        WhisperDome y = under(RING, PERSON, 0, PERSON, 1, PERSON, 2);
        y.trial(0, true);
        y.trial(1, true);
        is("18: two heard it", y.who(), 1);
        y.trial(2, true);
        is("18: not all three", y.who(), 0);
        y.forget();
        y.trial(0, false);
        y.trial(2, false);
        is("18: two did not", y.who(), 0);
    }

    private static void ask() {
        WhisperDome x = under(RING, PERSON, 0, PERSON, 1, PERSON, 2, PERSON, 3);
        is("19: the least of like ones", x.ask(), 1);
        x.trial(1, true);
        is("19: of two", x.ask(), 0);
        x.trial(0, false);
        is("19: of one", x.ask(), 0);
        x.trial(2, false);
        is("19: of nobody", x.ask(), NONE);
        is("19: nobody is there", under(RING).ask(), NONE);
        is("19: mute ones alone", under(RING, MUTE, 0).ask(), NONE);
        WhisperDome y = under(ALL, MUTE, 2, DEAF, 7, PERSON, 1, PERSON, 2, PERSON, 2);
        is("19: a mute one may be asked", y.ask(), 0);
        y.move(0, 5);
        is("19: he is away", y.ask(), 3);
        still(y, "19: nothing is changed", y::ask, 3);
    }

    private static void days() {
        // by the seed 1 of two: 0 goes to 6, 1 says 5; then 1 goes to 3, 0 says 9
        WhisperDome x = under(SELF, PERSON, 0, PERSON, 6);
        is("20: days(1, 1, 0)", x.days(1, 1, 0), 2);
        is("20: days(1, 1, 1)", x.days(1, 1, 1), 2);
        is("20: days(1, 1, 2)", x.days(1, 1, 2), 1147902781);
        is("20: days(2, 1, 0)", x.days(2, 1, 0), 3);
        is("20: days(2, 1, 1)", x.days(2, 1, 1), 3);
        is("20: days(2, 1, 2)", x.days(2, 1, 2), 486256185);
        is("20: the least seed", x.days(1, 0, 2), 1449466924);
        is("20: the largest seed", x.days(1, MAX, 2), 1751031067);
        x.say(1, 5);
        is("20: he knew it", x.days(1, 1, 0), 1);
        is("20: all know together", x.days(1, 1, 1), 2);
        WhisperDome mute = under(SELF, PERSON, 0, MUTE, 6);
        is("20: a mute one says nothing", mute.days(1, 1, 0), 0);
        is("20: but he draws", mute.days(1, 1, 2), 1147902781);
        for (int times : new int[] {0, -1, 61, MIN, MAX}) {
            still(x, "20: days(" + times + ", 1, 0)", () -> x.days(times, 1, 0), OUTSIDE);
        }
        for (int seed : new int[] {-1, MIN}) {
            still(x, "20: days(1, " + seed + ", 0)", () -> x.days(1, seed, 0), OUTSIDE);
        }
        for (int what : new int[] {-1, 3, MIN, MAX}) {
            still(x, "20: days(1, 1, " + what + ")", () -> x.days(1, 1, what), OUTSIDE);
        }
        WhisperDome none = under(SELF);
        still(none, "20: no people", () -> none.days(1, 1, 0), STATE);
        still(none, "20: no people, outside", () -> none.days(0, 1, 0), OUTSIDE);
    }

    /** Of 3, by the seed 7: 1 goes to 6, 2 says 4; then 2 goes to 5, 0 says 0. */
    private static void daysOfThree() {
        WhisperDome x = under(PAIRS, PERSON, 5, PERSON, 1, GOSSIP, 7);
        is("20: days(1, 7, 0)", x.days(1, 7, 0), 2);
        is("20: days(2, 7, 0)", x.days(2, 7, 0), 4);
        is("20: days(2, 7, 2)", x.days(2, 7, 2), 2083449087);
    }

    private static void daysChangeNothing() {
        WhisperDome x = under(RING, PERSON, 0, GOSSIP, 1, CRIER, 2);
        x.image();
        long seed = 77;
        for (int draw = 0; draw < 240; draw++) {
            seed = (1103515245L * seed + 12345L) % (1L << 31);
        }
        long last = seed;
        still(x, "20: days(60, 77, 2)", () -> x.days(60, 77, 2), last);
        is("20: the same again", x.days(60, 77, 0), x.days(60, 77, 0));
        is("20: all that is learned is known", x.days(60, 77, 1), x.days(60, 77, 0));
        x.restore();
        is("20: the image is as it was", x.count(2), 0);
    }

    // ---- promises 21 to 24: what is told of all

    private static void image() {
        WhisperDome x = under(RING);
        is("21: of nobody", x.image(), 0);
        x.person(PERSON, 0);
        x.person(PERSON, 1);
        still(x, "21: of two", x::image, 2);
        x.person(PERSON, 2);
        is("21: the latest", x.image(), 3);
        x.person(PERSON, 3);
        is("21: the latest is kept", x.restore(), 3);
    }

    private static void restore() {
        WhisperDome x = under(RING, PERSON, 0, GOSSIP, 1);
        still(x, "22: none was kept", x::restore, STATE);
        x.say(0, 3);
        x.cloth(5, true);
        x.trial(0, true);
        long before = x.digest();
        x.image();
        x.person(MUTE, 2);
        x.move(0, 6);
        x.say(0, 4);
        x.cloth(5, false);
        x.cloth(6, true);
        x.trial(1, false);
        is("22: restore()", x.restore(), 2);
        is("22: all as it was", x.digest(), before);
        is("22: he is gone", x.about(2, 0), UNKNOWN);
        is("22: who comes then", x.person(DEAF, 4), 2);
        is("22: knows nothing", x.about(2, 2), 0);
        x.forget();
        type(x, "ab");
        x.screens(0, 1, 0);
        is("22: restore() again", x.restore(), 2);
        is("22: trials", x.count(4), 1);
        is("22: who by them", x.who(), 1);
        is("22: the page stays", x.count(5), 2);
        is("22: screens() stay done", x.count(7), 1);
        x.blank();
        type(x, RING);
        x.dome();
        still(x, "22: another DOME since", x::restore, STATE);
        x.image();
        is("22: an image of that", x.restore(), 0);
    }

    private static void count() {
        WhisperDome x = under(RING, PERSON, 0, GOSSIP, 1, PERSON, 2);
        x.cloth(0, true);
        x.cloth(7, true);
        x.say(0, 4);
        x.say(0, 4);
        x.say(0, 5);
        x.say(2, 4);
        x.trial(1, true);
        x.letter('a');
        x.letter(1);
        x.letter(2);
        x.screens(0, 1, 0);
        x.screens(0, 1, 1);
        int[] counts = {3, 2, 6, 4, 1, 3, 1, 2};
        for (int what = 0; what < 8; what++) {
            is("23: count(" + what + ")", x.count(what), counts[what]);
        }
        for (int what : new int[] {-1, 8, MIN, MAX}) {
            still(x, "23: count(" + what + ")", () -> x.count(what), OUTSIDE);
        }
    }

    private static void digest() {
        WhisperDome x = under("abcdefgb;00000009", GOSSIP, 7, MUTE, 1);
        x.say(0, 2);
        x.cloth(3, true);
        x.trial(0, true);
        x.letter(126);
        x.letter(33);
        long due = mixed(
            0, 0, 0, 0, 2, 1,
            1, 0, 0, 2, 4, 130,
            2, 0, 0, 0, 2, 4,
            3, 0, 1, 0, 2, 8,
            4, 0, 0, 0, 2, 16,
            5, 0, 0, 0, 2, 32,
            6, 0, 0, 0, 2, 64,
            1, 9, 0, 1, 0, 0,
            2, 7, 4, 3, 0, 9,
            3, 1, 4, 0, NONE, NONE,
            1, 0,
            126, 33,
            2, 1, 2, 1, 1, 2, 1, 0);
        is("24: digest()", x.digest(), due);
        is("24: digest() again", x.digest(), due);
    }
}
