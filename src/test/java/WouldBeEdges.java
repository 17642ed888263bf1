/** Promises 14 and 15: cloth for two, and where two should stand. */
final class WouldBeEdges extends Bench {
    private static final int[] NOT_OF_THREE = {-1, 3, MIN, MAX};
    private static final int[] NOT_OF_SIX = {-1, 6, MIN, MAX};

    /** Nothing is full but screens(). */
    private static WhisperDome doneTwenty() {
        WhisperDome x = under(RING, PERSON, 0, PERSON, 1);
        for (int many = 0; many < 20; many++) {
            x.screens(0, 1, 0);
        }
        return x;
    }

    // ---- promise 14

    static void promise14WhatIs0Or1() {
        WhisperDome x = under(RING, PERSON, 6, PERSON, 7);
        is("screens(0, 1, 0)", x.screens(0, 1, 0), 1);
        is("screens(0, 1, 1)", x.screens(0, 1, 1), 128);
        for (int what : new int[] {-1, 2, MIN, MAX}) {
            unchanged(Bench::busy, "screens(0, 1, " + what + ")", y -> y.screens(0, 1, what), OUTSIDE);
        }
    }

    static void promise14NumbersFrom0ToTheLast() {
        WhisperDome x = under(RING, PERSON, 0, PERSON, 0, PERSON, 0, PERSON, 0, PERSON, 0, PERSON, 1);
        is("screens(0, 5, 1)", x.screens(0, 5, 1), 2);
        is("screens(5, 0, 1)", x.screens(5, 0, 1), 0);
        for (int number : NOT_OF_THREE) {
            unchanged(Bench::busy, "screens(" + number + ", 0, 0)", y -> y.screens(number, 0, 0), UNKNOWN);
            unchanged(Bench::busy, "screens(0, " + number + ", 1)", y -> y.screens(0, number, 1), UNKNOWN);
        }
        unchanged(Bench::empty, "screens(0, 1, 0) of nobody", y -> y.screens(0, 1, 0), UNKNOWN);
        unchanged(() -> under(RING, PERSON, 0), "screens(0, 1, 0) of one", y -> y.screens(0, 1, 0), UNKNOWN);
    }

    static void promise14TheSameIsUnknown() {
        for (int number = -1; number <= 3; number++) {
            int same = number;
            unchanged(Bench::busy, "screens(" + same + ", " + same + ", 0)", x -> x.screens(same, same, 0), UNKNOWN);
        }
    }

    static void promise14TwentyTimesAndNotOneMore() {
        WhisperDome x = under(RING, PERSON, 0, PERSON, 1);
        for (int many = 1; many <= 20; many++) {
            is("time " + many, x.screens(0, 1, many % 2), many % 2 == 0 ? 1 : 2);
            is("how often", x.count(7), many);
        }
        is("time 21", x.screens(0, 1, 0), STATE);
        is("how often", x.count(7), 20);
        unchanged(WouldBeEdges::doneTwenty, "time 21", y -> y.screens(0, 1, 1), STATE);
        unchanged(Bench::full, "time 21 of six", y -> y.screens(5, 0, 0), STATE);
    }

    static void promise14NoneIsDone() {
        WhisperDome x = under(RING, PERSON, 0, PERSON, 0);
        for (int many = 1; many <= 20; many++) {
            is("time " + many, x.screens(0, 1, many % 2), NONE);
        }
        is("time 21", x.screens(0, 1, 0), STATE);
    }

    static void promise14RefusedOnesAreNotDone() {
        WhisperDome x = under(RING, PERSON, 0, PERSON, 1);
        for (int many = 0; many < 30; many++) {
            x.screens(0, 0, 0);
            x.screens(0, 2, 0);
            x.screens(0, 1, 2);
        }
        is("how often", x.count(7), 0);
        is("the first time", x.screens(0, 1, 0), 1);
    }

    static void promise14AnotherDomeDoesNotGiveMore() {
        WhisperDome x = under(RING, PERSON, 0, PERSON, 1);
        for (int many = 1; many <= 20; many++) {
            due.holds("the time " + many, x.screens(0, 1, 0) != STATE);
        }
        type(x, RING).dome();
        x.person(PERSON, 0);
        x.person(PERSON, 1);
        is("done under both", x.count(7), 20);
        is("a time more", x.screens(0, 1, 0), STATE);
    }

    static void promise14UnknownThenOutsideThenState() {
        unchanged(Bench::busy, "screens(3, 0, 2)", x -> x.screens(3, 0, 2), UNKNOWN);
        unchanged(Bench::busy, "screens(0, 0, 2)", x -> x.screens(0, 0, 2), UNKNOWN);
        unchanged(WouldBeEdges::doneTwenty, "screens(0, 2, 2), time 21", x -> x.screens(0, 2, 2), UNKNOWN);
        unchanged(WouldBeEdges::doneTwenty, "screens(-1, 0, 0), time 21", x -> x.screens(-1, 0, 0), UNKNOWN);
        unchanged(WouldBeEdges::doneTwenty, "screens(1, 1, 0), time 21", x -> x.screens(1, 1, 0), UNKNOWN);
        unchanged(WouldBeEdges::doneTwenty, "screens(0, 1, 2), time 21", x -> x.screens(0, 1, 2), OUTSIDE);
        unchanged(WouldBeEdges::doneTwenty, "screens(0, 1, -1), time 21", x -> x.screens(0, 1, -1), OUTSIDE);
    }

    static void promise14NoMoreIsNeeded() {
        WhisperDome x = under(RING, PERSON, 0, PERSON, 1, MUTE, 0, DEAF, 0);
        x.cloth(1, true);
        is("cloth is there: how few", x.screens(0, 1, 0), 0);
        is("cloth is there: which", x.screens(0, 1, 1), 0);
        is("of a MUTE one", x.screens(2, 0, 0), 0);
        is("for a DEAF one", x.screens(0, 3, 1), 0);
        is("not heard there by the text", x.screens(1, 0, 1), 0);
    }

    static void promise14NoneHelps() {
        is("both at one place", under(RING, PERSON, 0, PERSON, 0).screens(0, 1, 0), NONE);
        is("both at one place, as bits", under(RING, PERSON, 0, PERSON, 0).screens(0, 1, 1), NONE);
        is("a CRIER", under(RING, CRIER, 0, PERSON, 1).screens(0, 1, 0), NONE);
        is("a CRIER beside him", under(RING, PERSON, 0, PERSON, 1, CRIER, 0).screens(0, 1, 1), NONE);
        WhisperDome x = under(RING, CRIER, 0, PERSON, 1);
        for (int place = 0; place < 8; place++) {
            x.cloth(place, true);
        }
        is("a CRIER, all eight have cloth", x.screens(0, 1, 0), NONE);
    }

    static void promise14TheLeastBitsOfLikeOnes() {
        String text = "hcbdefga;00000000";
        WhisperDome x = under(text, PERSON, 0, PERSON, 7);
        is("the last place alone", x.screens(0, 1, 1), 128);
        is("the first place alone", x.screens(1, 0, 1), 1);
        WhisperDome down = under("abbcdefg;11111111", PERSON, 7, GOSSIP, 6, GOSSIP, 5, GOSSIP, 4, GOSSIP, 3, PERSON, 2);
        is("of five on the way down", down.screens(0, 5, 1), 4);
        WhisperDome up = under(RING, PERSON, 2, GOSSIP, 3, GOSSIP, 4, GOSSIP, 5, GOSSIP, 6, PERSON, 7);
        is("of five on the way up", up.screens(0, 5, 1), 8);
        is("one is enough", up.screens(0, 5, 0), 1);
    }

    static void promise14TheClothThatIsThereIsNotToldAgain() {
        WhisperDome x = under(RING, CRIER, 0, GOSSIP, 1, PERSON, 2);
        x.cloth(1, true);
        is("past the CRIER", x.screens(0, 2, 1), 4);
        is("one more", x.screens(0, 2, 0), 1);
    }

    static void promise14NothingButHowOftenIsChanged() {
        WhisperDome x = under(RING, PERSON, 0, GOSSIP, 1, PERSON, 2);
        x.cloth(7, true);
        is("screens(0, 2, 1)", x.screens(0, 2, 1), 2);
        is("cloth is as it was", x.count(1), 1);
        is("it is still heard", x.hears(0, 2), 3);
        is("nobody knows more", x.count(2), 0);
        is("nothing was said", x.count(3), 0);
    }

    // ---- promise 15

    static void promise15From0To63() {
        is("the first place, nobody else is there", under(SELF, PERSON, 7, PERSON, 7).stand(0, 1), 0);
        WhisperDome x = under("aaaaaaah;00000000", PERSON, 1, PERSON, 2, PERSON, 0);
        is("the last place alone", x.stand(0, 1), 63);
        is("of six", under("aaaaaaah;00000000", PERSON, 0, PERSON, 0, PERSON, 0, PERSON, 0, PERSON, 0, PERSON, 0).stand(5, 4), 63);
    }

    /** Two who hear each other from two places would do so at one of them, too, so both are at one in each answer. */
    static void promise15EachPlaceAlone() {
        for (int place = 0; place < 8; place++) {
            int other = place == 0 ? 1 : 0;
            char[] text = (other == 0 ? "aaaaaaaa;99999999" : "bbbbbbbb;99999999").toCharArray();
            text[place] = (char) ('a' + place);
            WhisperDome x = under(new String(text), PERSON, other, PERSON, place, PERSON, other);
            is("both at " + place, x.stand(0, 1), 8 * place + place);
            is("the other way round", x.stand(1, 0), 8 * place + place);
        }
    }

    static void promise15TheLeastOfLikeOnes() {
        WhisperDome x = under(PAIRS, PERSON, 2, PERSON, 3);
        is("where they are they hear each other", x.hears(0, 1) + x.hears(1, 0), 6);
        is("but 0 and 0 is the least", x.stand(0, 1), 0);
        x.person(PERSON, 1);
        is("then 2 and 2, not 2 and 3", x.stand(0, 1), 18);
        is("nor 3 and 2", x.stand(1, 0), 18);
    }

    static void promise15NoneIsNone() {
        is("a DEAF one of the two", under(SELF, PERSON, 0, DEAF, 0).stand(0, 1), NONE);
        is("the first DEAF", under(SELF, DEAF, 0, PERSON, 0).stand(0, 1), NONE);
        is("a MUTE one of the two", under(SELF, PERSON, 0, MUTE, 0).stand(0, 1), NONE);
        is("the first MUTE", under(SELF, MUTE, 0, PERSON, 0).stand(0, 1), NONE);
        is("one is where all are heard", under(ALL, PERSON, 0, PERSON, 0, PERSON, 0).stand(0, 1), NONE);
        is("a MUTE one hears, too", under(ALL, PERSON, 0, PERSON, 0, MUTE, 0).stand(0, 1), NONE);
        is("but a DEAF one does not", under(ALL, PERSON, 0, PERSON, 0, DEAF, 0).stand(0, 1), 0);
    }

    static void promise15ClothMakesRoom() {
        WhisperDome x = under(ALL, PERSON, 0, PERSON, 0, PERSON, 0);
        x.cloth(0, true);
        is("both at 1, not heard at 0", x.stand(0, 1), 9);
        WhisperDome crier = under(ALL, PERSON, 0, CRIER, 0, PERSON, 0);
        crier.cloth(0, true);
        is("a CRIER is", crier.stand(0, 1), NONE);
    }

    static void promise15NumbersFrom0ToTheLast() {
        is("stand(5, 0)", under(SELF, PERSON, 0, DEAF, 0, DEAF, 0, DEAF, 0, DEAF, 0, PERSON, 0).stand(5, 0), 0);
        for (int number : NOT_OF_SIX) {
            unchanged(Bench::full, "stand(" + number + ", 0)", x -> x.stand(number, 0), UNKNOWN);
            unchanged(Bench::full, "stand(0, " + number + ")", x -> x.stand(0, number), UNKNOWN);
        }
        for (int number : NOT_OF_THREE) {
            unchanged(Bench::busy, "stand(" + number + ", 2)", x -> x.stand(number, 2), UNKNOWN);
            unchanged(Bench::busy, "stand(2, " + number + ")", x -> x.stand(2, number), UNKNOWN);
        }
        unchanged(Bench::empty, "stand(0, 1) of nobody", x -> x.stand(0, 1), UNKNOWN);
        unchanged(() -> under(RING, PERSON, 0), "stand(0, 1) of one", x -> x.stand(0, 1), UNKNOWN);
    }

    static void promise15TheSameIsUnknown() {
        for (int number = -1; number <= 3; number++) {
            int same = number;
            unchanged(Bench::busy, "stand(" + same + ", " + same + ")", x -> x.stand(same, same), UNKNOWN);
        }
    }

    static void promise15TheyStayWhereTheyAre() {
        unchanged(Bench::busy, "stand(0, 1)", x -> x.stand(0, 1), 0);
        unchanged(Bench::busy, "stand(0, 2), none", x -> x.stand(0, 2), NONE);
    }
}
