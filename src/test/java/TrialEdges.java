import java.math.BigInteger;

/** Promises 16 to 20: trials, who said it, whom to ask, and days by a seed. */
final class TrialEdges extends Bench {
    private static final int[] NOT_OF_THREE = {-1, 3, MIN, MAX};
    private static final int[] NOT_OF_SIX = {-1, 6, MIN, MAX};

    /** Six who hear themselves alone. */
    private static WhisperDome sixApart() {
        return under(SELF, PERSON, 0, PERSON, 1, PERSON, 2, PERSON, 3, PERSON, 4, PERSON, 5);
    }

    private static WhisperDome eightTrials() {
        WhisperDome x = under(RING, PERSON, 0, MUTE, 1);
        for (int many = 0; many < 8; many++) {
            x.trial(many % 2, true);
        }
        return x;
    }

    /** The seed behind so many draws, by the document's words. */
    private static long seedBehind(long seed, int draws) {
        long last = seed;
        for (int draw = 0; draw < draws; draw++) {
            last = (1103515245L * last + 12345L) % (1L << 31);
        }
        return last;
    }

    /** The seed from which so many draws lead to this one. */
    private static long seedAhead(long seed, int draws) {
        BigInteger whole = BigInteger.ONE.shiftLeft(31);
        BigInteger back = BigInteger.valueOf(1103515245L).modInverse(whole);
        BigInteger first = BigInteger.valueOf(seed);
        for (int draw = 0; draw < draws; draw++) {
            first = first.subtract(BigInteger.valueOf(12345L)).multiply(back).mod(whole);
        }
        return first.longValue();
    }

    // ---- promise 16

    static void promise16EightAndNotOneMore() {
        WhisperDome x = under(RING, PERSON, 0, PERSON, 1);
        for (int many = 1; many <= 8; many++) {
            is("trial " + many, x.trial(1, true), many);
            is("how many", x.count(4), many);
        }
        is("the ninth", x.trial(1, true), FULL);
        is("how many", x.count(4), 8);
        unchanged(TrialEdges::eightTrials, "the ninth, heard", y -> y.trial(0, true), FULL);
        unchanged(TrialEdges::eightTrials, "the ninth, not heard", y -> y.trial(0, false), FULL);
        unchanged(Bench::full, "the ninth of six", y -> y.trial(5, false), FULL);
    }

    static void promise16NumbersFrom0ToTheLast() {
        WhisperDome x = sixApart();
        is("trial(0, true)", x.trial(0, true), 1);
        is("trial(5, false)", x.trial(5, false), 2);
        for (int number : NOT_OF_SIX) {
            unchanged(TrialEdges::sixApart, "trial(" + number + ", true)", y -> y.trial(number, true), UNKNOWN);
        }
        for (int number : NOT_OF_THREE) {
            unchanged(Bench::busy, "trial(" + number + ", false)", y -> y.trial(number, false), UNKNOWN);
        }
        unchanged(Bench::empty, "trial(0, true) of nobody", y -> y.trial(0, true), UNKNOWN);
    }

    static void promise16UnknownIsToldAheadOfFull() {
        unchanged(Bench::full, "trial(6, true), no room", x -> x.trial(6, true), UNKNOWN);
        unchanged(Bench::full, "trial(-1, false), no room", x -> x.trial(-1, false), UNKNOWN);
    }

    static void promise16TheSameOneMayBeTriedAgain() {
        WhisperDome x = sixApart();
        is("trial(3, true)", x.trial(3, true), 1);
        is("trial(3, true) again", x.trial(3, true), 2);
        is("he said it", x.who(), 8);
        is("trial(3, false)", x.trial(3, false), 3);
        is("then nobody can have", x.who(), 0);
    }

    static void promise16TheEighthCounts() {
        WhisperDome x = sixApart();
        for (int many = 1; many <= 7; many++) {
            x.trial(0, false);
        }
        is("by seven", x.who(), 62);
        x.trial(5, true);
        is("by eight", x.who(), 32);
    }

    // ---- promise 17

    static void promise17NoneToForget() {
        unchanged(Bench::empty, "forget()", x -> x.forget(), 0);
    }

    static void promise17AllEightAreGone() {
        WhisperDome x = eightTrials();
        is("forget()", x.forget(), 8);
        is("none is left", x.count(4), 0);
        is("forget() again", x.forget(), 0);
        is("nothing is tried", x.who(), 1);
        for (int many = 1; many <= 8; many++) {
            is("trial " + many + " anew", x.trial(0, false), many);
        }
        is("the ninth", x.trial(0, false), FULL);
    }

    static void promise17OnlyTrialsAreGone() {
        WhisperDome x = under(RING, PERSON, 0, GOSSIP, 1);
        x.say(0, 1);
        long before = x.digest();
        x.trial(1, false);
        is("forget()", x.forget(), 1);
        is("the rest is as it was", x.digest(), before);
    }

    // ---- promise 18

    static void promise18NoDomeIsRefused() {
        unchanged(Bench::bare, "who()", x -> x.who(), STATE);
        unchanged(Bench::fullPage, "who() of a full page", x -> x.who(), STATE);
        is("with a DOME", empty().who(), 0);
    }

    static void promise18FromNobodyToAllSix() {
        is("nobody is there", empty().who(), 0);
        is("all six", sixApart().who(), 63);
        is("a MUTE one alone", under(RING, MUTE, 0).who(), 0);
        is("all but the MUTE one", full().who() & 8, 0);
        is("the last alone", under(RING, MUTE, 0, MUTE, 1, MUTE, 2, MUTE, 3, MUTE, 4, DEAF, 5).who(), 32);
    }

    static void promise18OfHimselfItIsToldThatHeHeard() {
        WhisperDome x = sixApart();
        x.trial(4, true);
        is("he heard it, nobody else could be heard", x.who(), 16);
        x.forget();
        x.trial(4, false);
        is("he did not, so he said nothing", x.who(), 47);
        WhisperDome deaf = under(SELF, DEAF, 0, PERSON, 0);
        deaf.trial(0, true);
        is("a DEAF one heard himself alone", deaf.who(), 1);
        deaf.forget();
        deaf.trial(0, false);
        is("a DEAF one did not hear the other", deaf.who(), 2);
    }

    static void promise18AMuteOneMayHaveHeard() {
        WhisperDome x = under(SELF, MUTE, 0, PERSON, 0, PERSON, 1);
        x.trial(0, true);
        is("the one beside him", x.who(), 2);
    }

    static void promise18AllTrialsWouldBeSo() {
        WhisperDome x = sixApart();
        x.trial(0, true);
        x.trial(1, true);
        is("no two hear one", x.who(), 0);
        x.move(1, 0);
        is("then either of both", x.who(), 3);
        unchanged(Bench::busy, "who() changes nothing", y -> y.who(), 1);
    }

    static void promise18ManyOfEitherSort() {
        WhisperDome x = sixApart();
        for (int number = 0; number < 5; number++) {
            x.trial(number, false);
            is("not 0 to " + number, x.who(), 63 >> number + 1 << number + 1);
        }
        x.forget();
        for (int number = 0; number < 6; number++) {
            x.move(number, 7);
            x.trial(number, true);
            is("heard by 0 to " + number, x.who(), (2 << number) - 1);
        }
    }

    // ---- promise 19

    static void promise19NoDomeIsRefused() {
        unchanged(Bench::bare, "ask()", x -> x.ask(), STATE);
        unchanged(Bench::fullPage, "ask() of a full page", x -> x.ask(), STATE);
        is("with a DOME", empty().ask(), NONE);
    }

    static void promise19NobodyIsNone() {
        is("nobody is there", empty().ask(), NONE);
        is("MUTE ones alone", under(RING, MUTE, 0, MUTE, 1).ask(), NONE);
        WhisperDome x = sixApart();
        x.trial(2, true);
        x.trial(2, false);
        is("trials that can't all be so", x.ask(), NONE);
        x.forget();
        is("without them", x.ask(), 0);
    }

    static void promise19OneAloneIsLeft() {
        is("one of one", under(RING, PERSON, 0).ask(), 0);
        WhisperDome x = sixApart();
        x.trial(5, true);
        is("the least of six, as none can make it fewer", x.ask(), 0);
    }

    static void promise19TheLeastOfLikeOnes() {
        is("each makes it five at worst", sixApart().ask(), 0);
        WhisperDome x = under(SELF, DEAF, 7, PERSON, 0, PERSON, 0, PERSON, 1);
        // of 4: the DEAF one tells 1 from 3, each of the two at 0 tells 2 from 2
        is("the first of the two", x.ask(), 1);
        unchanged(Bench::busy, "ask() changes nothing", y -> y.ask(), 0);
    }

    static void promise19AllSixAreLeftAtWorst() {
        WhisperDome x = under(SELF, PERSON, 7, PERSON, 7, PERSON, 7, PERSON, 7, PERSON, 7, PERSON, 7);
        is("whoever is asked has heard it, so the least", x.ask(), 0);
        is("any of six", x.who(), 63);
        x.trial(0, false);
        is("nobody, if one has not", x.ask(), NONE);
    }

    static void promise19TheLastMayBeTheBest() {
        // only who is at 1 tells those at 0 from the others: 3 and 3
        WhisperDome x = under("bacdefgh;00000000", DEAF, 7, DEAF, 7, DEAF, 0, DEAF, 0, DEAF, 6, PERSON, 1);
        is("ask()", x.ask(), 5);
    }

    static void promise19AnyOfPeopleMayBeAsked() {
        is("a DEAF one, who heard it if he said it", under(RING, DEAF, 0, PERSON, 5).ask(), 0);
        is("a MUTE one, who heard it if 1 said it", under(RING, MUTE, 1, PERSON, 0, PERSON, 5).ask(), 0);
        WhisperDome x = under(RING, PERSON, 0, PERSON, 5);
        x.trial(0, true);
        is("one who was asked", x.ask(), 0);
    }

    // ---- promise 20

    static void promise20TimesFrom1To60() {
        WhisperDome x = busy();
        is("once", x.days(1, 5, 2), seedBehind(5, 4));
        is("sixty times", x.days(60, 5, 2), seedBehind(5, 240));
        for (int times : new int[] {0, 61, -1, MIN, MAX}) {
            for (int what = 0; what < 3; what++) {
                int which = what;
                unchanged(Bench::busy, "days(" + times + ", 5, " + which + ")", y -> y.days(times, 5, which), OUTSIDE);
            }
        }
    }

    static void promise20SeedsFrom0Up() {
        WhisperDome x = busy();
        is("the least seed", x.days(1, 0, 2), seedBehind(0, 4));
        is("the largest seed", x.days(1, MAX, 2), seedBehind(MAX, 4));
        for (int seed : new int[] {-1, MIN}) {
            unchanged(Bench::busy, "days(1, " + seed + ", 2)", y -> y.days(1, seed, 2), OUTSIDE);
        }
    }

    static void promise20WhatFrom0To2() {
        WhisperDome x = under(SELF, PERSON, 0);
        is("days(1, 0, 0)", x.days(1, 0, 0), 1);
        is("days(1, 0, 1)", x.days(1, 0, 1), 1);
        is("days(1, 0, 2)", x.days(1, 0, 2), 1449466924);
        for (int what : new int[] {-1, 3, MIN, MAX}) {
            unchanged(Bench::busy, "days(1, 0, " + what + ")", y -> y.days(1, 0, what), OUTSIDE);
        }
    }

    static void promise20NoPeopleIsRefused() {
        unchanged(Bench::empty, "days(1, 0, 0)", x -> x.days(1, 0, 0), STATE);
        unchanged(Bench::empty, "days(60, 2147483647, 2)", x -> x.days(60, MAX, 2), STATE);
        unchanged(Bench::bare, "days(1, 0, 2) without a DOME", x -> x.days(1, 0, 2), STATE);
    }

    static void promise20OutsideIsToldAheadOfState() {
        unchanged(Bench::empty, "days(0, 0, 0)", x -> x.days(0, 0, 0), OUTSIDE);
        unchanged(Bench::empty, "days(61, 0, 0)", x -> x.days(61, 0, 0), OUTSIDE);
        unchanged(Bench::empty, "days(1, -1, 0)", x -> x.days(1, -1, 0), OUTSIDE);
        unchanged(Bench::bare, "days(1, 0, 3)", x -> x.days(1, 0, 3), OUTSIDE);
        unchanged(Bench::bare, "days(1, 0, -1)", x -> x.days(1, 0, -1), OUTSIDE);
    }

    static void promise20TheSeedIsARestBy2ToThe31() {
        WhisperDome x = under(SELF, PERSON, 0);
        for (int seed : new int[] {0, 1, 2, 65535, 65536, 1073741823, 1073741824, MAX - 1, MAX}) {
            for (int times : new int[] {1, 2, 59, 60}) {
                String call = "days(" + times + ", " + seed + ", 2)";
                int got = x.days(times, seed, 2);
                due.holds(call + " is 0 at least", got >= 0);
                is(call, got, seedBehind(seed, 4 * times));
            }
        }
    }

    /** A word is the fourth draw of a day; one who knows it already tells by 0 that it was this one. */
    private static void drawnWord(long last, int word) {
        WhisperDome x = under(RING, PERSON, 0);
        int seed = (int) seedAhead(last, 4);
        is("the seed then", x.days(1, seed, 2), last);
        for (int known = 0; known < 10; known++) {
            WhisperDome y = under(RING, PERSON, 0);
            y.say(0, known);
            is("by " + last + " the word " + known + " is new", y.days(1, seed, 0), known == word ? 0 : 1);
        }
    }

    static void promise20ADrawIsRoundedDown() {
        drawnWord(0, 0);
        drawnWord(65535, 0);
        drawnWord(65536, 1);
        drawnWord(131071, 1);
        drawnWord(131072, 2);
        drawnWord(2147418111, 6);
        drawnWord(2147418112, 7);
        drawnWord(2147483647, 7);
    }

    static void promise20ADrawIsARest() {
        drawnWord(10 * 65536 - 1, 9);
        drawnWord(10 * 65536, 0);
        drawnWord(20 * 65536 - 1, 9);
        drawnWord(20 * 65536, 0);
    }

    static void promise20OneOfOne() {
        WhisperDome x = under(RING, PERSON, 0);
        // whoever is drawn is he; by the seed 0 the words drawn are the fourth and the eighth draw's rest by 10
        long first = seedBehind(0, 4) / 65536 % 10;
        long second = seedBehind(0, 8) / 65536 % 10;
        is("one word", x.days(1, 0, 0), 1);
        is("two words, or one twice", x.days(2, 0, 0), first == second ? 1 : 2);
        x.say(0, (int) first);
        is("he knew it", x.days(1, 0, 0), 0);
        is("and knows it still", x.days(1, 0, 1), 1);
    }

    static void promise20TheSameOneMayGoAndSay() {
        // by the seed 0 the draws are 0, 4, 0, 7: 0 goes to 4 and says 7 there, which is heard at 5
        WhisperDome x = under(RING, PERSON, 0, PERSON, 5);
        is("both get to know it", x.days(1, 0, 0), 2);
        is("1 is elsewhere", under(RING, PERSON, 0, PERSON, 1).days(1, 0, 0), 1);
        // by the seed 1 they are 0, 6, 1, 5: 0 goes to 6, where 1 at 5 is heard
        is("another one says it", x.days(1, 1, 0), 2);
        is("and nobody knew anything else", x.days(1, 1, 1), 2);
    }

    static void promise20ClothHangsAsItDoes() {
        // by the seed 0 the one who goes to 4 says 7 there, which is heard at 5
        WhisperDome x = under(RING, PERSON, 0, PERSON, 5);
        x.cloth(5, true);
        is("it keeps the word from 5", x.days(1, 0, 0), 1);
        x.cloth(5, false);
        x.cloth(4, true);
        is("where it is said it keeps nothing", x.days(1, 0, 0), 2);
        WhisperDome y = under(RING, CRIER, 0, PERSON, 5);
        y.cloth(5, true);
        is("nor does it what a CRIER says", y.days(1, 0, 0), 2);
    }

    static void promise20MuteOnesAlone() {
        WhisperDome x = under(SELF, MUTE, 0, MUTE, 0);
        is("nobody says anything", x.days(60, 7, 0), 0);
        is("nobody knows anything", x.days(60, 7, 1), 0);
        is("the seed goes on all the same", x.days(60, 7, 2), seedBehind(7, 240));
    }

    static void promise20AllKnowAll() {
        WhisperDome x = under(SELF, GOSSIP, 0, GOSSIP, 0, GOSSIP, 0, GOSSIP, 0, GOSSIP, 0, GOSSIP, 0);
        for (int word = 0; word < 10; word++) {
            x.say(0, word);
        }
        is("nobody gets to know more", x.days(60, 9, 0), 0);
        is("sixty together", x.days(60, 9, 1), 60);
    }

    static void promise20AsTheyWouldBe() {
        WhisperDome x = busy();
        int learned = x.days(60, 3, 0);
        is("what is known then", x.days(60, 3, 1), x.count(2) + learned);
        unchanged(Bench::busy, "days(60, 3, 0)", y -> y.days(60, 3, 0), learned);
        unchanged(Bench::full, "days(60, 3, 2)", y -> y.days(60, 3, 2), seedBehind(3, 240));
    }
}
