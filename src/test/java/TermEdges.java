/** What the document says ahead of its promises (00): the text of a dome, how often, and the terms. */
final class TermEdges extends Bench {

    // ---- what it is

    static void promise00AtMost512Calls() {
        WhisperDome x = under(RING, PERSON, 0, PERSON, 1);
        for (int call = 21; call < 512; call++) {
            is("call " + call, x.say(0, call % 10), call < 31 ? 2 : 0);
        }
        is("call 512", x.count(3), 491);
        WhisperDome page = bare();
        for (int call = 1; call <= 512; call++) {
            is("letter by call " + call, page.letter(call % 126 + 1), call <= 20 ? call : FULL);
        }
        WhisperDome last = bare();
        for (int call = 1; call < 512; call++) {
            is("digest() by call " + call, last.digest(), mixed(0, 0, 0, 0, 0, 0, 0, 0));
        }
        is("call 512", last.letter('a'), 1);
    }

    static void promise00TheTextsEnds() {
        is("a, 0 all over", typed("aaaaaaaa;00000000").dome(), 7);
        is("h, 9 all over", typed("hhhhhhhh;99999999").dome(), 7);
        WhisperDome x = under("hhhhhhhh;99999999");
        is("heard at the last", x.place(0, 0), 7);
        is("nine later", x.place(7, 1), 9);
    }

    // ---- terms

    static void promise00NoClothAtFirst() {
        for (int place = 0; place < 8; place++) {
            is("cloth at " + place, empty().place(place, 2), 0);
        }
        is("how many have", empty().count(1), 0);
    }

    static void promise00AllThereHearAtOnce() {
        WhisperDome x = under("baaaaaaa;99999999", PERSON, 0, PERSON, 0, MUTE, 0, GOSSIP, 0, CRIER, 0, DEAF, 0);
        for (int other = 0; other < 5; other++) {
            is("hears(0, " + other + ")", x.hears(0, other), 0);
        }
        is("but a DEAF one never", x.hears(0, 5), NONE);
    }

    static void promise00HeardAtItselfIsAtOnce() {
        WhisperDome x = under("abcdefgh;99999999", PERSON, 0, PERSON, 0, CRIER, 0);
        is("at once, not nine later", x.hears(0, 1), 0);
        x.cloth(0, true);
        is("cloth keeps nobody there from it", x.hears(0, 1), 0);
        is("nor a CRIER's", x.hears(2, 1), 0);
    }

    static void promise00ClothIsWhereItIsHeard() {
        WhisperDome x = under(RING, PERSON, 0, PERSON, 1, PERSON, 2);
        x.cloth(0, true);
        is("where it is said it keeps nothing", x.hears(0, 1), 1);
        x.cloth(1, true);
        is("where it is heard it does", x.hears(0, 1), NONE);
        is("not what is said there", x.hears(1, 2), 2);
        x.cloth(1, false);
        is("taken down", x.hears(0, 1), 1);
    }

    static void promise00ACrierInSpiteOfCloth() {
        WhisperDome x = under(RING, CRIER, 0, PERSON, 1, GOSSIP, 0, DEAF, 1);
        x.cloth(1, true);
        is("a CRIER", x.hears(0, 1), 1);
        is("a GOSSIP, by the CRIER beside him", x.hears(2, 1), 1);
        is("a DEAF one hears no CRIER", x.hears(0, 3), NONE);
        x.move(0, 5);
        is("a GOSSIP alone", x.hears(2, 1), NONE);
    }

    static void promise00OnlyGossipsHandOn() {
        int[] minutes = {NONE, NONE, 3, NONE, 3};
        for (int kind = 0; kind <= 4; kind++) {
            WhisperDome x = under(RING, PERSON, 0, kind, 1, PERSON, 2);
            is("by one of kind " + kind, x.hears(0, 2), minutes[kind]);
        }
    }

    static void promise00SeveralHandOnAtOnce() {
        // of the two at 1 the CRIER alone is heard behind cloth, the GOSSIP ahead of him is not
        WhisperDome x = under(RING, PERSON, 0, CRIER, 1, GOSSIP, 1, PERSON, 2);
        x.cloth(2, true);
        is("by the CRIER, the first", x.hears(0, 3), 3);
        WhisperDome y = under(RING, PERSON, 0, GOSSIP, 1, CRIER, 1, PERSON, 2);
        y.cloth(2, true);
        is("by the CRIER, the second", y.hears(0, 3), 3);
    }

    static void promise00TheWayRoundEnds() {
        WhisperDome x = under("bcdefagh;99999999", GOSSIP, 0, GOSSIP, 1, GOSSIP, 2, GOSSIP, 3, GOSSIP, 4, GOSSIP, 5);
        for (int from = 0; from < 6; from++) {
            for (int to = 0; to < 6; to++) {
                is("hears(" + from + ", " + to + ")", x.hears(from, to), (to - from + 6) % 6 * 9);
            }
        }
        is("all six", x.say(3, 0), 6);
        WhisperDome still = under("badcfehg;00000000", CRIER, 0, CRIER, 1, CRIER, 0, CRIER, 1);
        is("to and fro in no time", still.hears(0, 3), 0);
        is("all four", still.about(3, 3), 15);
    }

    static void promise00FromTheLastPlaceToTheFirst() {
        WhisperDome x = under(RING, PERSON, 7, PERSON, 0);
        is("7 is heard at 0", x.hears(0, 1), 8);
        is("not 0 at 7", x.hears(1, 0), NONE);
    }

    static void promise00TheFewestMinutes() {
        // the GOSSIP at 1 is heard back at 0, but who is at 0 has heard it at once
        WhisperDome x = under("baaaaaaa;30000000", PERSON, 0, GOSSIP, 1, PERSON, 0, PERSON, 1);
        is("at once, not three later", x.hears(0, 2), 0);
        is("three later", x.hears(0, 3), 3);
        is("back in no time", x.hears(3, 2), 0);
        // to 0 from 1 it is nine; the CRIER beside takes as long
        WhisperDome y = under("baaaaaaa;09999999", PERSON, 1, CRIER, 1, PERSON, 0);
        is("by two alike", y.hears(0, 2), 9);
    }

    static void promise00WhoSaysItKnowsIt() {
        for (int kind : new int[] {PERSON, DEAF, GOSSIP, CRIER}) {
            WhisperDome x = under(SELF, kind, 0);
            is("say(0, 0) of kind " + kind, x.say(0, 0), 1);
            is("he knows it", x.about(0, 2), 1);
        }
        WhisperDome x = under(SELF, PERSON, 0, MUTE, 0, DEAF, 0);
        is("the MUTE one gets to know it", x.say(0, 0), 2);
        is("he knows it", x.about(1, 2), 1);
        is("the DEAF one does not", x.about(2, 2), 0);
    }

    static void promise00FromThenOn() {
        WhisperDome x = under(RING, PERSON, 0, PERSON, 1);
        x.say(0, 7);
        x.move(1, 5);
        x.cloth(1, true);
        x.say(0, 8);
        is("he knows what he heard, not what he did not", x.about(1, 2), 128);
    }

    /** Whatever is asked in whatever state: no call throws, and each answer is a number, NONE or a refusal. */
    static void promise00AnyNumbersInAnyState() {
        int[] numbers = {MIN, MIN + 1, -105, -1, 0, 1, 2, 3, 4, 5, 6, 7, 8, 9, 10, 20, 31, 32, 60, 61, 126, 127, MAX - 1, MAX};
        for (int one : numbers) {
            for (int other : numbers) {
                for (WhisperDome x : new WhisperDome[] {bare(), fullPage(), empty(), busy(), full()}) {
                    askAll(x, one, other, numbers);
                }
            }
        }
    }

    private static void askAll(WhisperDome x, int one, int other, int[] numbers) {
        boolean is = other > 4;
        answers("the dome", x.letter(one), x.fault(), x.place(one, other), x.cloth(one, is));
        answers("people", x.person(one, other), x.about(one, other), x.as(one, other), x.move(one, other),
                x.say(one, other), x.hears(one, other));
        answers("what would be", x.stand(one, other), x.trial(one, is), x.who(), x.ask(), x.count(one));
        for (int third : numbers) {
            answers("screens, days", x.screens(one, other, third), x.days(one, other, third));
        }
        answers("what is told of all", x.image(), x.restore(), x.forget(), x.blank(), x.dome());
        x.digest();
    }

    private static void answers(String of, int... got) {
        for (int answer : got) {
            due.holds(of + ": " + answer + " is an answer", answer >= NONE || answer <= UNKNOWN && answer >= FULL);
        }
    }

    static void promise00TheFirstRefusalOfEachCall() {
        unchanged(Bench::full, "letter(127)", x -> x.letter(127), OUTSIDE);
        unchanged(Bench::bare, "place(8, 6)", x -> x.place(8, 6), UNKNOWN);
        unchanged(Bench::full, "person(5, 8)", x -> x.person(5, 8), OUTSIDE);
        unchanged(Bench::full, "about(6, 4)", x -> x.about(6, 4), UNKNOWN);
        unchanged(Bench::full, "as(6, 5)", x -> x.as(6, 5), UNKNOWN);
        unchanged(Bench::full, "say(3, 10)", x -> x.say(3, 10), OUTSIDE);
        unchanged(Bench::full, "say(6, 10)", x -> x.say(6, 10), UNKNOWN);
        unchanged(Bench::full, "screens(0, 1, 2)", x -> x.screens(0, 1, 2), OUTSIDE);
        unchanged(Bench::full, "screens(1, 1, 2)", x -> x.screens(1, 1, 2), UNKNOWN);
        unchanged(Bench::full, "trial(6, true)", x -> x.trial(6, true), UNKNOWN);
        unchanged(Bench::bare, "days(61, -1, 3)", x -> x.days(61, -1, 3), OUTSIDE);
    }
}
