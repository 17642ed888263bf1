/**
 * The promises in ordinary use, by answers worked out by hand. EdgeTest has the boundaries and refusals of all, and
 * those promises whole that are little else (1 to 4, 10, 16, 17, 21).
 */
public final class PromiseTest extends Bench {
    public static void main(String[] args) {
        dome();
        domeAnew();
        place();
        cloth();
        person();
        about();
        move();
        say();
        sayAgain();
        hears();
        hearsByCriers();
        hearsRound();
        screens();
        stand();
        who();
        ask();
        days();
        daysOfThree();
        daysChangeNothing();
        restore();
        count();
        digest();
        due.end("PromiseTest");
    }

    // ---- promises 5 to 7: the dome

    private static void dome() {
        String[] texts = {RING, SELF, PAIRS, ALL, "bacdefgh;90000000"};
        int[] elsewhere = {8, 0, 8, 7, 2};
        for (int i = 0; i < texts.length; i++) {
            WhisperDome x = typed(texts[i]);
            is("5: dome() of " + texts[i], x.dome(), elsewhere[i]);
            is("5: the page is empty", x.count(5), 0);
            is("5: a DOME was read", x.count(6), 1);
        }
    }

    private static void domeAnew() {
        WhisperDome x = under(RING, PERSON, 0, PERSON, 1);
        x.say(0, 3);
        x.cloth(4, true);
        x.trial(0, true);
        x.screens(0, 1, 0);
        x.image();
        type(x, ALL);
        is("5: another one", x.dome(), 7);
        int[] left = {0, 0, 0, 0, 0, 0, 2, 1};
        for (int what = 0; what < 8; what++) {
            is("5: count(" + what + ") under another DOME", x.count(what), left[what]);
        }
        is("5: the image is gone", x.restore(), STATE);
        is("5: it is another", x.place(3, 0), 0);
        is("5: no cloth", x.place(4, 2), 0);
        is("5: people anew", x.person(GOSSIP, 2), 0);
        is("5: he knows nothing", x.about(0, 2), 0);
        is("5: no trials", x.who(), 1);
    }

    private static void place() {
        WhisperDome x = under("bbdaaaaa;90817263", PERSON, 1, DEAF, 7, MUTE, 1);
        x.cloth(2, true);
        int[] heardAt = {1, 1, 3, 0, 0, 0, 0, 0};
        int[] later = {9, 0, 8, 1, 7, 2, 6, 3};
        int[] hung = {0, 0, 1, 0, 0, 0, 0, 0};
        int[] there = {0, 5, 0, 0, 0, 0, 0, 2};
        int[] rent = {5, 4, 0, 1, 0, 0, 0, 0};
        int[] from = {248, 3, 0, 4, 0, 0, 0, 0};
        int[][] facts = {heardAt, later, hung, there, rent, from};
        for (int p = 0; p < 8; p++) {
            for (int what = 0; what < 6; what++) {
                is("6: place(" + p + ", " + what + ")", x.place(p, what), facts[what][p]);
            }
        }
        is("6: all at one", under(ALL).place(0, 4), 16);
    }

    private static void cloth() {
        WhisperDome x = under(RING);
        is("7: cloth(7, true)", x.cloth(7, true), 0);
        is("7: cloth(7, true) again", x.cloth(7, true), 1);
        is("7: cloth(0, false)", x.cloth(0, false), 0);
        is("7: it has", x.place(7, 2), 1);
        is("7: no other has", x.count(1), 1);
        is("7: cloth(7, false)", x.cloth(7, false), 1);
        is("7: it has not", x.place(7, 2), 0);
        is("7: cloth(7, false) again", x.cloth(7, false), 0);
    }

    // ---- promises 8 to 13: people

    private static void person() {
        WhisperDome x = under(RING);
        for (int number = 0; number < 6; number++) {
            is("8: person, number " + number, x.person(number % 5, 7 - number), number);
            is("8: his kind", x.about(number, 0), number % 5);
            is("8: his place", x.about(number, 1), 7 - number);
            is("8: he knows nothing", x.about(number, 2), 0);
        }
    }

    private static void about() {
        WhisperDome x = under(RING, PERSON, 0, GOSSIP, 1, DEAF, 1, MUTE, 2, CRIER, 2, PERSON, 3);
        int[] hearers = {0b111011, 0b111010, 0b111110, 0, 0b111000, 0b100000};
        for (int i = 0; i < 6; i++) {
            is("9: about(" + i + ", 3)", x.about(i, 3), hearers[i]);
        }
        is("9: about(4, 0)", x.about(4, 0), 4);
        is("9: about(4, 1)", x.about(4, 1), 2);
        x.say(5, 0);
        x.say(5, 9);
        is("9: about(5, 2)", x.about(5, 2), 0b1000000001);
        still(x, "9: about(0, 3) changes nothing", () -> x.about(0, 3), 0b111011);
    }

    private static void move() {
        WhisperDome x = under(RING, PERSON, 3, PERSON, 3);
        is("11: move(1, 7)", x.move(1, 7), 3);
        is("11: where he is", x.about(1, 1), 7);
        is("11: the other one stays", x.about(0, 1), 3);
        is("11: who is there", x.place(7, 3), 2);
        is("11: move(1, 7) again", x.move(1, 7), 7);
        is("11: move(1, 0)", x.move(1, 0), 7);
    }

    private static void say() {
        WhisperDome x = under(RING, PERSON, 0, PERSON, 1, DEAF, 1, MUTE, 1, PERSON, 2);
        is("12: say(0, 0)", x.say(0, 0), 3);
        is("12: say(0, 0) again", x.say(0, 0), 0);
        is("12: say(1, 0)", x.say(1, 0), 1);
        is("12: a deaf one says", x.say(2, 9), 4);
        is("12: how often", x.count(3), 4);
        int[] known = {0b1, 0b1000000001, 0b1000000000, 0b1000000001, 0b1000000001};
        for (int i = 0; i < 5; i++) {
            is("12: what " + i + " knows", x.about(i, 2), known[i]);
        }
    }

    /** As the class reads the document: each saying is handed on alike, whoever knew the word before. */
    private static void sayAgain() {
        WhisperDome x = under(RING, PERSON, 0, GOSSIP, 1, PERSON, 5);
        is("12: say(0, 4), nobody behind the gossip", x.say(0, 4), 2);
        x.move(2, 2);
        is("12: say(0, 4), one behind the gossip", x.say(0, 4), 1);
        is("12: each saying counts once", x.count(3), 2);
    }

    private static void hears() {
        WhisperDome x = under(RING, PERSON, 0, GOSSIP, 1, PERSON, 2, GOSSIP, 2, DEAF, 3, MUTE, 3);
        int[][] minutes = {
            {0, 1, 3, 3, NONE, 6},
            {NONE, 0, 2, 2, NONE, 5},
            {NONE, NONE, 0, 0, NONE, 3},
            {NONE, NONE, 0, 0, NONE, 3},
            {NONE, NONE, NONE, NONE, 0, 0},
            {NONE, NONE, NONE, NONE, NONE, NONE}};
        for (int from = 0; from < 6; from++) {
            for (int to = 0; to < 6; to++) {
                is("13: hears(" + from + ", " + to + ")", x.hears(from, to), minutes[from][to]);
            }
        }
        x.cloth(2, true);
        is("13: cloth on the way", x.hears(0, 5), NONE);
        is("13: ahead of the cloth", x.hears(0, 1), 1);
        is("13: at the cloth itself", x.hears(2, 3), 0);
        is("13: from the cloth", x.hears(2, 5), 3);
    }

    private static void hearsByCriers() {
        WhisperDome x = under(RING, CRIER, 0, GOSSIP, 1, PERSON, 2, PERSON, 0);
        x.cloth(1, true);
        x.cloth(2, true);
        is("13: a crier, in spite of cloth", x.hears(0, 1), 1);
        is("13: a gossip hands on as himself", x.hears(0, 2), NONE);
        is("13: a person, but a crier beside him", x.hears(3, 1), 1);
        x.person(CRIER, 1);
        is("13: a crier hands on in spite of cloth", x.hears(0, 2), 3);
        is("13: by two criers", x.hears(3, 2), 3);
        x.cloth(1, false);
        x.cloth(2, false);
        is("13: without cloth alike", x.hears(0, 2), 3);
    }

    private static void hearsRound() {
        WhisperDome x = under("baaaaaaa;92345678", GOSSIP, 0, GOSSIP, 1, PERSON, 0, PERSON, 1);
        is("13: there", x.hears(0, 3), 9);
        is("13: and back, but at once", x.hears(0, 2), 0);
        is("13: from the other side", x.hears(3, 2), 2);
        is("13: himself, not round", x.hears(1, 1), 0);
        WhisperDome self = under("abcdefgh;99999999", PERSON, 0, PERSON, 0);
        self.cloth(0, true);
        is("13: heard at itself: at once, in spite of cloth", self.hears(0, 1), 0);
    }

    // ---- promises 14 and 15: what would be

    private static void screens() {
        WhisperDome x = under(RING, PERSON, 0, GOSSIP, 1, PERSON, 2, CRIER, 0, MUTE, 0, DEAF, 2);
        x.move(3, 7);
        is("14: how few", x.screens(0, 2, 0), 1);
        is("14: which, the least", x.screens(0, 2, 1), 2);
        is("14: the crier's own way can't be cut", x.screens(3, 0, 0), NONE);
        is("14: nor told as bits", x.screens(3, 0, 1), NONE);
        is("14: a mute one is not heard", x.screens(4, 0, 0), 0);
        is("14: a deaf one hears not", x.screens(1, 5, 1), 0);
        is("14: two at one place", x.screens(0, 4, 0), NONE);
        x.move(3, 0);
        is("14: behind a crier", x.screens(0, 2, 1), 4);
        x.cloth(1, true);
        is("14: cloth there is not counted", x.screens(0, 2, 1), 4);
        x.cloth(2, true);
        is("14: none more", x.screens(0, 2, 0), 0);
        is("14: none more, as bits", x.screens(0, 2, 1), 0);
        is("14: cloth is as it was", x.count(1), 2);
        is("14: how often", x.count(7), 11);
    }

    private static void stand() {
        is("15: nobody else", under(SELF, PERSON, 5, PERSON, 6).stand(0, 1), 0);
        is("15: one there", under(SELF, PERSON, 5, PERSON, 6, PERSON, 0).stand(1, 0), 9);
        is("15: a deaf one there", under(SELF, PERSON, 5, PERSON, 6, DEAF, 0).stand(0, 1), 0);
        is("15: a mute one there", under(SELF, PERSON, 5, PERSON, 6, MUTE, 0).stand(0, 1), 9);
        is("15: a deaf one of the two", under(SELF, PERSON, 5, DEAF, 6).stand(0, 1), NONE);
        is("15: a mute one of the two", under(SELF, MUTE, 5, PERSON, 6).stand(0, 1), NONE);
        is("15: one is heard by", under(PAIRS, PERSON, 5, PERSON, 6, PERSON, 0).stand(0, 1), 18);
        WhisperDome x = under(PAIRS, PERSON, 5, CRIER, 6, PERSON, 0, PERSON, 5);
        x.cloth(0, true);
        is("15: a person behind cloth", x.stand(0, 3), 9);
        is("15: a crier is heard behind cloth", x.stand(1, 0), 18);
        WhisperDome y = under(PAIRS, PERSON, 5, GOSSIP, 6, PERSON, 0);
        y.cloth(0, true);
        is("15: cloth keeps the other one out", y.stand(0, 1), 9);
        is("15: all are heard where one is", under(ALL, PERSON, 5, PERSON, 6, PERSON, 0).stand(0, 1), NONE);
        WhisperDome z = under(RING, PERSON, 5, PERSON, 6, PERSON, 1);
        still(z, "15: nothing is changed", () -> z.stand(0, 1), 18);
    }

    // ---- promises 18 to 20: trials

    private static void who() {
        WhisperDome x = under(RING, PERSON, 0, PERSON, 1, PERSON, 2, PERSON, 3);
        is("18: all", x.who(), 15);
        x.trial(1, true);
        is("18: by one", x.who(), 3);
        x.trial(0, false);
        is("18: by two", x.who(), 2);
        x.trial(2, false);
        is("18: nobody", x.who(), 0);
        x.cloth(2, true);
        is("18: by cloth as it is now", x.who(), 2);
        x.forget();
        x.person(MUTE, 0);
        x.person(DEAF, 0);
        is("18: no mute one", x.who(), 0b101111);
        x.trial(5, true);
        is("18: a deaf one heard but himself", x.who(), 0b100000);
        is("18: nobody is there", under(RING).who(), 0);
        still(x, "18: nothing is changed", x::who, 0b100000);
        WhisperDome y = under(RING, PERSON, 0, PERSON, 1, PERSON, 2);
        y.trial(0, true);
        y.trial(1, true);
        is("18: two heard it", y.who(), 1);
        y.trial(2, true);
        is("18: not all three", y.who(), 0);
        y.forget();
        y.trial(0, false);
        y.trial(2, false);
        is("18: two did not", y.who(), 0);
    }

    private static void ask() {
        WhisperDome x = under(RING, PERSON, 0, PERSON, 1, PERSON, 2, PERSON, 3);
        is("19: the least of like ones", x.ask(), 1);
        x.trial(1, true);
        is("19: of two", x.ask(), 0);
        x.trial(0, false);
        is("19: of one", x.ask(), 0);
        x.trial(2, false);
        is("19: of nobody", x.ask(), NONE);
        is("19: nobody is there", under(RING).ask(), NONE);
        is("19: mute ones alone", under(RING, MUTE, 0).ask(), NONE);
        WhisperDome y = under(ALL, MUTE, 2, DEAF, 7, PERSON, 1, PERSON, 2, PERSON, 2);
        is("19: a mute one may be asked", y.ask(), 0);
        y.move(0, 5);
        is("19: he is away", y.ask(), 3);
        still(y, "19: nothing is changed", y::ask, 3);
    }

    private static void days() {
        // by the seed 1 of two: 0 goes to 6, 1 says 5; then 1 goes to 3, 0 says 9
        WhisperDome x = under(SELF, PERSON, 0, PERSON, 6);
        is("20: days(1, 1, 0)", x.days(1, 1, 0), 2);
        is("20: days(1, 1, 1)", x.days(1, 1, 1), 2);
        is("20: days(1, 1, 2)", x.days(1, 1, 2), 1147902781);
        is("20: days(2, 1, 0)", x.days(2, 1, 0), 3);
        is("20: days(2, 1, 1)", x.days(2, 1, 1), 3);
        is("20: days(2, 1, 2)", x.days(2, 1, 2), 486256185);
        is("20: the least seed", x.days(1, 0, 2), 1449466924);
        is("20: the largest seed", x.days(1, MAX, 2), 1751031067);
        x.say(1, 5);
        is("20: he knew it", x.days(1, 1, 0), 1);
        is("20: all know together", x.days(1, 1, 1), 2);
        WhisperDome mute = under(SELF, PERSON, 0, MUTE, 6);
        is("20: a mute one says nothing", mute.days(1, 1, 0), 0);
        is("20: but he draws", mute.days(1, 1, 2), 1147902781);
    }

    /** Of 3, by the seed 7: 1 goes to 6, 2 says 4; then 2 goes to 5, 0 says 0. */
    private static void daysOfThree() {
        WhisperDome x = under(PAIRS, PERSON, 5, PERSON, 1, GOSSIP, 7);
        is("20: days(1, 7, 0)", x.days(1, 7, 0), 2);
        is("20: days(2, 7, 0)", x.days(2, 7, 0), 4);
        is("20: days(2, 7, 2)", x.days(2, 7, 2), 2083449087);
    }

    private static void daysChangeNothing() {
        WhisperDome x = under(RING, PERSON, 0, GOSSIP, 1, CRIER, 2);
        x.image();
        long seed = 77;
        for (int draw = 0; draw < 240; draw++) {
            seed = (1103515245L * seed + 12345L) % (1L << 31);
        }
        long last = seed;
        still(x, "20: days(60, 77, 2)", () -> x.days(60, 77, 2), last);
        is("20: the same again", x.days(60, 77, 0), x.days(60, 77, 0));
        is("20: all that is learned is known", x.days(60, 77, 1), x.days(60, 77, 0));
        x.restore();
        is("20: the image is as it was", x.count(2), 0);
    }

    // ---- promises 22 to 24: what is told of all

    private static void restore() {
        WhisperDome x = under(RING, PERSON, 0, GOSSIP, 1);
        x.say(0, 3);
        x.cloth(5, true);
        x.trial(0, true);
        long before = x.digest();
        x.image();
        x.person(MUTE, 2);
        x.move(0, 6);
        x.say(0, 4);
        x.cloth(5, false);
        x.cloth(6, true);
        x.trial(1, false);
        is("22: restore()", x.restore(), 2);
        is("22: all as it was", x.digest(), before);
        is("22: he is gone", x.about(2, 0), UNKNOWN);
        is("22: who comes then", x.person(DEAF, 4), 2);
        is("22: knows nothing", x.about(2, 2), 0);
        x.forget();
        type(x, "ab");
        x.screens(0, 1, 0);
        is("22: restore() again", x.restore(), 2);
        is("22: trials", x.count(4), 1);
        is("22: who by them", x.who(), 1);
        is("22: the page stays", x.count(5), 2);
        is("22: screens() stay done", x.count(7), 1);
        x.blank();
        type(x, RING);
        x.dome();
        x.image();
        is("22: an image of that", x.restore(), 0);
    }

    private static void count() {
        WhisperDome x = under(RING, PERSON, 0, GOSSIP, 1, PERSON, 2);
        x.cloth(0, true);
        x.cloth(7, true);
        x.say(0, 4);
        x.say(0, 4);
        x.say(0, 5);
        x.say(2, 4);
        x.trial(1, true);
        x.letter('a');
        x.letter(1);
        x.letter(2);
        x.screens(0, 1, 0);
        x.screens(0, 1, 1);
        int[] counts = {3, 2, 6, 4, 1, 3, 1, 2};
        for (int what = 0; what < 8; what++) {
            is("23: count(" + what + ")", x.count(what), counts[what]);
        }
    }

    private static void digest() {
        WhisperDome x = under("abcdefgb;00000009", GOSSIP, 7, MUTE, 1);
        x.say(0, 2);
        x.cloth(3, true);
        x.trial(0, true);
        x.letter(126);
        x.letter(33);
        long due = mixed(
            0, 0, 0, 0, 2, 1,
            1, 0, 0, 2, 4, 130,
            2, 0, 0, 0, 2, 4,
            3, 0, 1, 0, 2, 8,
            4, 0, 0, 0, 2, 16,
            5, 0, 0, 0, 2, 32,
            6, 0, 0, 0, 2, 64,
            1, 9, 0, 1, 0, 0,
            2, 7, 4, 3, 0, 9,
            3, 1, 4, 0, NONE, NONE,
            1, 0,
            126, 33,
            2, 1, 2, 1, 1, 2, 1, 0);
        is("24: digest()", x.digest(), due);
        is("24: digest() again", x.digest(), due);
    }
}
