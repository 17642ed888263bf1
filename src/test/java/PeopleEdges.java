/** Promises 8 to 13: people, what they are, where they go, what they say and hear. */
final class PeopleEdges extends Bench {
    private static final int[] NO_KINDS = {-1, 5, MIN, MAX};
    private static final int[] NO_PLACES = {-1, 8, MIN, MAX};
    /** Under busy() there are three. */
    private static final int[] NOT_OF_THREE = {-1, 3, MIN, MAX};
    /** Under full() there are six. */
    private static final int[] NOT_OF_SIX = {-1, 6, MIN, MAX};

    /** Six of this kind at place 7, where place 7 is heard. */
    private static WhisperDome sixTogether(int kind) {
        return under(SELF, kind, 7, kind, 7, kind, 7, kind, 7, kind, 7, kind, 7);
    }

    // ---- promise 8

    static void promise08KindsFrom0To4() {
        WhisperDome x = empty();
        for (int kind = 0; kind <= 4; kind++) {
            is("person(" + kind + ", 0)", x.person(kind, 0), kind);
            is("his kind", x.about(kind, 0), kind);
        }
        for (int kind : NO_KINDS) {
            unchanged(Bench::empty, "person(" + kind + ", 0)", y -> y.person(kind, 0), OUTSIDE);
            unchanged(Bench::busy, "person(" + kind + ", 7)", y -> y.person(kind, 7), OUTSIDE);
        }
    }

    static void promise08PlacesFrom0To7() {
        WhisperDome x = empty();
        is("person(0, 0)", x.person(0, 0), 0);
        is("person(0, 7)", x.person(0, 7), 1);
        is("the first is there", x.about(0, 1), 0);
        is("the second is there", x.about(1, 1), 7);
        for (int place : NO_PLACES) {
            unchanged(Bench::busy, "person(0, " + place + ")", y -> y.person(0, place), UNKNOWN);
            unchanged(Bench::busy, "person(4, " + place + ")", y -> y.person(4, place), UNKNOWN);
        }
        unchanged(() -> typed(RING), "person(0, 0) without a DOME", y -> y.person(0, 0), UNKNOWN);
    }

    static void promise08SixAndNotOneMore() {
        WhisperDome x = empty();
        for (int number = 0; number < 6; number++) {
            is("how many ahead of " + number, x.count(0), number);
            is("person " + number, x.person(PERSON, 7), number);
        }
        is("the seventh", x.person(PERSON, 7), FULL);
        is("how many", x.count(0), 6);
        for (int kind = 0; kind <= 4; kind++) {
            int what = kind;
            unchanged(Bench::full, "the seventh, of kind " + what, y -> y.person(what, what), FULL);
        }
    }

    static void promise08OutsideThenUnknownThenFull() {
        unchanged(Bench::full, "person(5, 8), no room", x -> x.person(5, 8), OUTSIDE);
        unchanged(Bench::full, "person(-1, 0), no room", x -> x.person(-1, 0), OUTSIDE);
        unchanged(Bench::full, "person(0, 8), no room", x -> x.person(0, 8), UNKNOWN);
        unchanged(Bench::full, "person(0, -1), no room", x -> x.person(0, -1), UNKNOWN);
        unchanged(Bench::busy, "person(-1, -1)", x -> x.person(-1, -1), OUTSIDE);
        unchanged(Bench::bare, "person(5, 0) without a DOME", x -> x.person(5, 0), OUTSIDE);
    }

    static void promise08WhoComesKnowsNothing() {
        WhisperDome x = under(SELF, PERSON, 0);
        x.say(0, 9);
        x.person(PERSON, 0);
        is("one who comes behind the word", x.about(1, 2), 0);
    }

    // ---- promise 9

    static void promise09NumbersFrom0ToTheLast() {
        WhisperDome x = full();
        is("about(0, 0)", x.about(0, 0), PERSON);
        is("about(5, 1)", x.about(5, 1), 3);
        is("the last of three", busy().about(2, 0), MUTE);
        unchanged(Bench::empty, "about(0, 0) of nobody", y -> y.about(0, 0), UNKNOWN);
        for (int number : NOT_OF_SIX) {
            unchanged(Bench::full, "about(" + number + ", 3)", y -> y.about(number, 3), UNKNOWN);
        }
        for (int number : NOT_OF_THREE) {
            unchanged(Bench::busy, "about(" + number + ", 0)", y -> y.about(number, 0), UNKNOWN);
        }
    }

    static void promise09WhatFrom0To3() {
        is("about(0, 0)", under(SELF, CRIER, 6).about(0, 0), CRIER);
        is("about(0, 3)", under(SELF, CRIER, 6).about(0, 3), 1);
        for (int what : new int[] {-1, 4, MIN, MAX}) {
            unchanged(Bench::busy, "about(0, " + what + ")", x -> x.about(0, what), OUTSIDE);
            unchanged(Bench::busy, "about(2, " + what + ") of a MUTE one", x -> x.about(2, what), OUTSIDE);
        }
    }

    static void promise09UnknownIsToldAheadOfOutside() {
        unchanged(Bench::busy, "about(3, 4)", x -> x.about(3, 4), UNKNOWN);
        unchanged(Bench::busy, "about(-1, -1)", x -> x.about(-1, -1), UNKNOWN);
        unchanged(Bench::bare, "about(0, 4)", x -> x.about(0, 4), UNKNOWN);
    }

    static void promise09FromNoWordToAllTen() {
        WhisperDome x = under(SELF, PERSON, 0);
        for (int word = 0; word <= 9; word++) {
            is("ahead of word " + word, x.about(0, 2), (1 << word) - 1);
            x.say(0, word);
        }
        is("all ten", x.about(0, 2), 1023);
    }

    static void promise09FromNobodyToAllSixHear() {
        is("a MUTE one: nobody", sixTogether(MUTE).about(5, 3), 0);
        is("a MUTE one alone", under(SELF, MUTE, 0).about(0, 3), 0);
        is("himself alone", under(SELF, PERSON, 0).about(0, 3), 1);
        is("among DEAF ones he alone", sixTogether(DEAF).about(5, 3), 32);
        is("all six", sixTogether(PERSON).about(0, 3), 63);
        is("all six, of the last", sixTogether(PERSON).about(5, 3), 63);
    }

    static void promise09TheMuteOneHears() {
        WhisperDome x = under(SELF, MUTE, 0, PERSON, 0);
        is("by him nobody hears", x.about(0, 3), 0);
        is("he hears the other", x.about(1, 3), 3);
    }

    // ---- promise 10

    static void promise10EachKindAsEach() {
        WhisperDome x = under(RING, PERSON, 0, DEAF, 0, GOSSIP, 0, MUTE, 0, CRIER, 0);
        int[][] as = {
            {0, NONE, NONE, NONE, NONE},
            {1, 1, NONE, NONE, NONE},
            {2, NONE, 2, NONE, NONE},
            {3, NONE, NONE, 3, NONE},
            {4, NONE, 4, NONE, 4}};
        for (int number = 0; number < 5; number++) {
            for (int kind = 0; kind <= 4; kind++) {
                is("as(" + number + ", " + kind + ")", x.as(number, kind), as[number][kind]);
            }
        }
    }

    static void promise10AFailedCastChangesNothing() {
        unchanged(Bench::busy, "as(0, 4)", x -> x.as(0, CRIER), NONE);
        unchanged(Bench::busy, "as(1, 4), a GOSSIP is no CRIER", x -> x.as(1, CRIER), NONE);
        unchanged(Bench::busy, "as(1, 2)", x -> x.as(1, GOSSIP), 1);
    }

    static void promise10NumbersFrom0ToTheLast() {
        is("as(5, 0)", full().as(5, 0), 5);
        for (int number : NOT_OF_SIX) {
            unchanged(Bench::full, "as(" + number + ", 0)", x -> x.as(number, 0), UNKNOWN);
        }
        for (int number : NOT_OF_THREE) {
            unchanged(Bench::busy, "as(" + number + ", 0)", x -> x.as(number, 0), UNKNOWN);
        }
        unchanged(Bench::empty, "as(0, 0) of nobody", x -> x.as(0, 0), UNKNOWN);
    }

    static void promise10KindsFrom0To4() {
        for (int kind : NO_KINDS) {
            unchanged(Bench::busy, "as(0, " + kind + ")", x -> x.as(0, kind), OUTSIDE);
            unchanged(Bench::full, "as(4, " + kind + ") of a CRIER", x -> x.as(4, kind), OUTSIDE);
        }
    }

    static void promise10UnknownIsToldAheadOfOutside() {
        unchanged(Bench::busy, "as(3, 5)", x -> x.as(3, 5), UNKNOWN);
        unchanged(Bench::busy, "as(-1, -1)", x -> x.as(-1, -1), UNKNOWN);
        unchanged(Bench::bare, "as(0, 5)", x -> x.as(0, 5), UNKNOWN);
    }

    // ---- promise 11

    static void promise11PlacesFrom0To7() {
        WhisperDome x = under(RING, PERSON, 3);
        is("move(0, 0)", x.move(0, 0), 3);
        is("move(0, 7)", x.move(0, 7), 0);
        is("there he is", x.about(0, 1), 7);
        for (int place : NO_PLACES) {
            unchanged(Bench::busy, "move(0, " + place + ")", y -> y.move(0, place), UNKNOWN);
        }
    }

    static void promise11NumbersFrom0ToTheLast() {
        WhisperDome x = full();
        is("move(5, 0)", x.move(5, 0), 3);
        is("all others stay", x.place(0, 3), 33);
        for (int number : NOT_OF_SIX) {
            unchanged(Bench::full, "move(" + number + ", 0)", y -> y.move(number, 0), UNKNOWN);
        }
        for (int number : NOT_OF_THREE) {
            unchanged(Bench::busy, "move(" + number + ", 0)", y -> y.move(number, 0), UNKNOWN);
        }
        unchanged(Bench::empty, "move(0, 0) of nobody", y -> y.move(0, 0), UNKNOWN);
        unchanged(Bench::busy, "move(3, 8)", y -> y.move(3, 8), UNKNOWN);
    }

    static void promise11WhereHeIsAlready() {
        unchanged(Bench::full, "move(5, 3)", x -> x.move(5, 3), 3);
        unchanged(Bench::busy, "move(0, 7)", x -> x.move(0, 7), 7);
    }

    static void promise11AllSixMayBeAtOne() {
        WhisperDome x = full();
        for (int number = 0; number < 6; number++) {
            x.move(number, 7);
        }
        is("all are there", x.place(7, 3), 63);
    }

    // ---- promise 12

    static void promise12WordsFrom0To9() {
        WhisperDome x = under(SELF, PERSON, 0);
        is("say(0, 0)", x.say(0, 0), 1);
        is("say(0, 9)", x.say(0, 9), 1);
        is("both are known", x.about(0, 2), 513);
        for (int word : new int[] {-1, 10, 32, MIN, MAX}) {
            unchanged(Bench::busy, "say(0, " + word + ")", y -> y.say(0, word), OUTSIDE);
        }
    }

    static void promise12NumbersFrom0ToTheLast() {
        is("say(5, 1)", full().say(5, 1), 1);
        for (int number : NOT_OF_SIX) {
            unchanged(Bench::full, "say(" + number + ", 0)", x -> x.say(number, 0), UNKNOWN);
        }
        for (int number : NOT_OF_THREE) {
            unchanged(Bench::busy, "say(" + number + ", 0)", x -> x.say(number, 0), UNKNOWN);
        }
        unchanged(Bench::empty, "say(0, 0) of nobody", x -> x.say(0, 0), UNKNOWN);
    }

    static void promise12AMuteOneIsRefused() {
        unchanged(Bench::busy, "say(2, 0)", x -> x.say(2, 0), STATE);
        unchanged(Bench::full, "say(3, 9)", x -> x.say(3, 9), STATE);
        unchanged(() -> sixTogether(MUTE), "one of six MUTE ones", x -> x.say(5, 9), STATE);
    }

    static void promise12UnknownThenOutsideThenState() {
        unchanged(Bench::busy, "say(3, 10)", x -> x.say(3, 10), UNKNOWN);
        unchanged(Bench::busy, "say(-1, -1)", x -> x.say(-1, -1), UNKNOWN);
        unchanged(Bench::busy, "say(2, 10) of a MUTE one", x -> x.say(2, 10), OUTSIDE);
        unchanged(Bench::busy, "say(2, -1) of a MUTE one", x -> x.say(2, -1), OUTSIDE);
    }

    static void promise12FromNobodyToAllSixGetToKnow() {
        WhisperDome x = sixTogether(PERSON);
        is("all six", x.say(0, 3), 6);
        is("nobody", x.say(0, 3), 0);
        is("nobody, by another one", x.say(5, 3), 0);
        is("it was said all the same", x.count(3), 3);
        is("he alone among DEAF ones", sixTogether(DEAF).say(0, 3), 1);
        is("he alone where nobody is", under(RING, PERSON, 0).say(0, 3), 1);
    }

    static void promise12OneWhoKnewIsNotCounted() {
        WhisperDome x = under(SELF, PERSON, 0, PERSON, 1);
        x.say(0, 3);
        x.move(1, 0);
        is("one of two", x.say(0, 3), 1);
        is("another word, both", x.say(0, 2), 2);
    }

    static void promise12EachSayingCountsOnce() {
        WhisperDome x = under(RING, PERSON, 0, GOSSIP, 1, CRIER, 2);
        is("it is handed on twice", x.say(0, 0), 3);
        is("but was said once", x.count(3), 1);
        x.say(3, 0);
        x.say(0, 10);
        is("refused ones are not counted", x.count(3), 1);
    }

    // ---- promise 13

    static void promise13HimselfAtOnce() {
        WhisperDome x = under("bbbbbbbb;99999999", PERSON, 0, DEAF, 1, GOSSIP, 2, MUTE, 3, CRIER, 4);
        is("a PERSON", x.hears(0, 0), 0);
        is("a DEAF one, who said it", x.hears(1, 1), 0);
        is("a GOSSIP", x.hears(2, 2), 0);
        is("a MUTE one says nothing", x.hears(3, 3), NONE);
        is("a CRIER", x.hears(4, 4), 0);
    }

    static void promise13NeverIsNone() {
        is("nobody is there", under(RING, PERSON, 0, PERSON, 2).hears(0, 1), NONE);
        is("not the way back", under(RING, PERSON, 0, PERSON, 1).hears(1, 0), NONE);
        is("a DEAF one beside him", under(RING, PERSON, 0, DEAF, 0).hears(0, 1), NONE);
        is("a MUTE one beside him", under(RING, MUTE, 0, PERSON, 0).hears(0, 1), NONE);
        WhisperDome x = under(RING, PERSON, 0, PERSON, 1);
        x.cloth(1, true);
        is("behind cloth", x.hears(0, 1), NONE);
    }

    static void promise13FromNoneToNineMinutesLater() {
        WhisperDome x = under("bcdefgha;09000000", PERSON, 0, PERSON, 1, PERSON, 2);
        is("none later at another place", x.hears(0, 1), 0);
        is("nine later", x.hears(1, 2), 9);
    }

    static void promise13TheLongestWay() {
        WhisperDome x = under("bcdefgha;99999999", PERSON, 0, GOSSIP, 1, GOSSIP, 2, GOSSIP, 3, GOSSIP, 4, PERSON, 5);
        is("by four GOSSIPS", x.hears(0, 5), 45);
        is("by three", x.hears(0, 4), 36);
        WhisperDome y = under("abcdefgh;00000000", GOSSIP, 3, GOSSIP, 3, GOSSIP, 3, GOSSIP, 3, GOSSIP, 3, GOSSIP, 3);
        is("at once among six", y.hears(0, 5), 0);
    }

    static void promise13NumbersFrom0ToTheLast() {
        is("hears(5, 5)", full().hears(5, 5), 0);
        is("hears(0, 5)", full().hears(0, 5), NONE);
        for (int number : NOT_OF_SIX) {
            unchanged(Bench::full, "hears(" + number + ", 0)", x -> x.hears(number, 0), UNKNOWN);
            unchanged(Bench::full, "hears(0, " + number + ")", x -> x.hears(0, number), UNKNOWN);
        }
        for (int number : NOT_OF_THREE) {
            unchanged(Bench::busy, "hears(" + number + ", " + number + ")", x -> x.hears(number, number), UNKNOWN);
            unchanged(Bench::busy, "hears(2, " + number + ") of a MUTE one", x -> x.hears(2, number), UNKNOWN);
        }
        unchanged(Bench::empty, "hears(0, 0) of nobody", x -> x.hears(0, 0), UNKNOWN);
    }

    static void promise13HearingChangesNothing() {
        unchanged(Bench::full, "hears(2, 4)", x -> x.hears(2, 4), NONE);
        unchanged(() -> under(RING, GOSSIP, 0, GOSSIP, 1, GOSSIP, 2), "hears(0, 2)", x -> x.hears(0, 2), 3);
    }
}
