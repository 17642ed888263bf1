/** Promises 1 to 7: a new object, the page, the dome, places and cloth. */
final class DomeEdges extends Bench {
    private static final int[] NO_PLACES = {-1, 8, MIN, MAX};

    // ---- promise 1

    static void promise01AllIsNoneAtFirst() {
        for (int what = 0; what < 8; what++) {
            is("count(" + what + ")", bare().count(what), 0);
        }
        is("fault()", bare().fault(), 0);
        is("digest() of no DOME, nobody, no letter", bare().digest(), mixed(0, 0, 0, 0, 0, 0, 0, 0));
    }

    static void promise01NoDomeIsRefused() {
        unchanged(Bench::bare, "dome()", x -> x.dome(), STATE);
        unchanged(Bench::bare, "who()", x -> x.who(), STATE);
        unchanged(Bench::bare, "ask()", x -> x.ask(), STATE);
        unchanged(Bench::bare, "image()", x -> x.image(), STATE);
        unchanged(Bench::bare, "restore()", x -> x.restore(), STATE);
        unchanged(Bench::bare, "days(1, 0, 0)", x -> x.days(1, 0, 0), STATE);
    }

    static void promise01NoNumberNamesAnythingAtFirst() {
        unchanged(Bench::bare, "place(0, 0)", x -> x.place(0, 0), UNKNOWN);
        unchanged(Bench::bare, "cloth(0, true)", x -> x.cloth(0, true), UNKNOWN);
        unchanged(Bench::bare, "person(0, 0)", x -> x.person(0, 0), UNKNOWN);
        unchanged(Bench::bare, "about(0, 0)", x -> x.about(0, 0), UNKNOWN);
        unchanged(Bench::bare, "as(0, 0)", x -> x.as(0, 0), UNKNOWN);
        unchanged(Bench::bare, "move(0, 0)", x -> x.move(0, 0), UNKNOWN);
        unchanged(Bench::bare, "say(0, 0)", x -> x.say(0, 0), UNKNOWN);
        unchanged(Bench::bare, "hears(0, 0)", x -> x.hears(0, 0), UNKNOWN);
        unchanged(Bench::bare, "screens(0, 1, 0)", x -> x.screens(0, 1, 0), UNKNOWN);
        unchanged(Bench::bare, "stand(0, 1)", x -> x.stand(0, 1), UNKNOWN);
        unchanged(Bench::bare, "trial(0, true)", x -> x.trial(0, true), UNKNOWN);
    }

    static void promise01NothingToTakeAwayAtFirst() {
        unchanged(Bench::bare, "blank()", x -> x.blank(), 0);
        unchanged(Bench::bare, "forget()", x -> x.forget(), 0);
    }

    // ---- promise 2

    static void promise02CodesFrom1To126AreTaken() {
        for (int code = 1; code <= 126; code++) {
            WhisperDome x = bare();
            is("letter(" + code + ")", x.letter(code), 1);
            is("digest() by letter(" + code + ")", x.digest(), mixed(code, 0, 0, 0, 0, 0, 1, 0, 0));
        }
    }

    static void promise02OtherCodesAreOutside() {
        for (int code : new int[] {0, 127, -1, 128, -126, 256 + 97, MIN, MAX}) {
            unchanged(Bench::bare, "letter(" + code + ")", x -> x.letter(code), OUTSIDE);
            unchanged(Bench::busy, "letter(" + code + ") on a page", x -> x.letter(code), OUTSIDE);
        }
    }

    static void promise02TwentyLettersAndNotOneMore() {
        WhisperDome x = bare();
        for (int many = 1; many <= 20; many++) {
            is("letter " + many, x.letter(126), many);
        }
        is("the 21st", x.letter(126), FULL);
        is("the 21st again", x.letter(1), FULL);
        is("how many", x.count(5), 20);
        unchanged(Bench::fullPage, "the 21st", y -> y.letter(97), FULL);
        unchanged(Bench::full, "the 21st under a DOME", y -> y.letter(97), FULL);
    }

    static void promise02OutsideIsToldAheadOfFull() {
        unchanged(Bench::fullPage, "letter(0) on a full page", x -> x.letter(0), OUTSIDE);
        unchanged(Bench::fullPage, "letter(127) on a full page", x -> x.letter(127), OUTSIDE);
    }

    // ---- promise 3

    static void promise03AnEmptyPage() {
        unchanged(Bench::empty, "blank() of no letter", x -> x.blank(), 0);
    }

    static void promise03AFullPage() {
        WhisperDome x = fullPage();
        is("blank() of twenty", x.blank(), 20);
        is("blank() again", x.blank(), 0);
        is("no letter is left", x.count(5), 0);
        is("nor told", x.digest(), bare().digest());
        is("the next letter is the first", x.letter('a'), 1);
        is("and there is room for twenty", type(x, RING + "ab").count(5), 20);
    }

    static void promise03OnlyThePageIsEmpty() {
        WhisperDome x = empty();
        long before = x.digest();
        type(x, "abc");
        is("blank() of three", x.blank(), 3);
        is("the rest is as it was", x.digest(), before);
    }

    // ---- promise 4

    static void promise04AnEmptyPageHasNoFault() {
        is("fault() of nothing", bare().fault(), 0);
        is("fault() of one letter that fits", typed("a").fault(), 1);
        is("fault() of one letter that does not", typed("i").fault(), 0);
    }

    static void promise04EachStartOfADomeHasNoFault() {
        for (int end = 0; end <= 17; end++) {
            is("fault() of the first " + end, typed(RING.substring(0, end)).fault(), end);
        }
    }

    static void promise04PlacesAreAToH() {
        theseAloneFit("abcdefgh", 0, 7);
    }

    static void promise04TheMarkIsASemicolon() {
        theseAloneFit(";", 8, 8);
    }

    static void promise04MinutesAre0To9() {
        theseAloneFit("0123456789", 9, 16);
    }

    /** All 126 codes at each of these places of a text: as its last letter, and with the rest behind it. */
    private static void theseAloneFit(String fit, int first, int last) {
        for (int at = first; at <= last; at++) {
            for (char code = 1; code <= 126; code++) {
                boolean fits = fit.indexOf(code) >= 0;
                String start = RING.substring(0, at) + code;
                is("fault() by " + (int) code + " at " + at, typed(start).fault(), fits ? at + 1 : at);
                is("fault() by " + (int) code + " within, at " + at,
                        typed(start + RING.substring(at + 1)).fault(), fits ? 17 : at);
            }
        }
    }

    static void promise04NoDomeHasAnEighteenthLetter() {
        for (char code = 1; code <= 126; code++) {
            is("fault() by " + (int) code + " behind a DOME", typed(RING + code).fault(), 17);
        }
        is("fault() of twenty", typed(RING + "000").fault(), 17);
    }

    static void promise04TheFirstOfSeveralIsTold() {
        is("fault() of twenty wrong ones", typed("~~~~~~~~~~~~~~~~~~~~").fault(), 0);
        is("at 7 and 8", typed("abcdefg;;").fault(), 7);
        is("at 16 and 17", typed("abcdefgh;0000000:a").fault(), 16);
        unchanged(Bench::full, "fault() changes nothing", x -> x.fault(), 17);
    }

    // ---- promise 5

    static void promise05FromNoneToAllEightElsewhere() {
        is("none", typed(SELF).dome(), 0);
        is("one", typed("abcdefga;99999999").dome(), 1);
        is("seven", typed(ALL).dome(), 7);
        is("all eight", typed(RING).dome(), 8);
    }

    static void promise05NotTheStartOfADome() {
        for (int end = 0; end < 17; end++) {
            String start = RING.substring(0, end);
            unchanged(() -> typed(start), "dome() of the first " + end, x -> x.dome(), STATE);
        }
    }

    static void promise05NoLetterTooMany() {
        for (String more : new String[] {"0", "00", "000", ";"}) {
            unchanged(() -> typed(RING + more), "dome() of a DOME and " + more, x -> x.dome(), STATE);
        }
        unchanged(Bench::full, "dome() of twenty under a DOME", x -> x.dome(), STATE);
    }

    static void promise05NoFaultWithin() {
        String[] wrong = {"`bcdefgh;00000000", "abcdefgi;00000000", "Abcdefgh;00000000", "abcdefgh:00000000",
            "abcdefgh<00000000", "abcdefgh;/0000000", "abcdefgh;0000000:", "00000000;abcdefgh"};
        for (String text : wrong) {
            unchanged(() -> typed(text), "dome() of " + text, x -> x.dome(), STATE);
        }
    }

    static void promise05AnUnreadOneLeavesTheDome() {
        unchanged(Bench::busy, "dome() of three letters", x -> x.dome(), STATE);
        unchanged(() -> type(under(SELF, PERSON, 1), "h"), "dome() of one letter", x -> x.dome(), STATE);
        unchanged(Bench::empty, "dome() of no letter", x -> x.dome(), STATE);
    }

    static void promise05ThePageIsEmptyThen() {
        WhisperDome x = typed(RING);
        is("seventeen letters", x.count(5), 17);
        is("dome()", x.dome(), 8);
        is("no letter is left", x.count(5), 0);
        is("so it can't be read again", x.dome(), STATE);
        is("it was read once", x.count(6), 1);
        is("the next letter is the first", x.letter('a'), 1);
    }

    static void promise05AllThatWasIsGone() {
        WhisperDome x = full();
        x.blank();
        type(x, SELF);
        is("dome()", x.dome(), 0);
        for (int what = 0; what <= 5; what++) {
            is("count(" + what + ")", x.count(what), 0);
        }
        is("it was read twice", x.count(6), 2);
        is("nobody has a number", x.about(0, 0), UNKNOWN);
        is("no image is left", x.restore(), STATE);
        for (int place = 0; place < 8; place++) {
            is("no cloth at " + place, x.place(place, 2), 0);
            is("nobody at " + place, x.place(place, 3), 0);
            is("where " + place + " is heard", x.place(place, 0), place);
        }
    }

    static void promise05ThereIsRoomForAllAgain() {
        WhisperDome x = full();
        x.blank();
        type(x, ALL).dome();
        for (int number = 0; number < 6; number++) {
            is("person " + number, x.person(PERSON, number), number);
            is("he knows nothing", x.about(number, 2), 0);
        }
        is("the seventh", x.person(PERSON, 0), FULL);
        for (int many = 1; many <= 8; many++) {
            is("trial " + many, x.trial(0, true), many);
        }
        is("the ninth", x.trial(0, true), FULL);
    }

    static void promise05TheSameTextIsAnotherDome() {
        WhisperDome x = under(RING, PERSON, 3);
        x.image();
        type(x, RING);
        is("dome()", x.dome(), 8);
        is("nobody is left", x.count(0), 0);
        is("it was read twice", x.count(6), 2);
        is("the image is gone", x.restore(), STATE);
    }

    // ---- promise 6

    static void promise06PlacesFrom0To7() {
        WhisperDome x = empty();
        is("place(0, 0)", x.place(0, 0), 1);
        is("place(7, 0)", x.place(7, 0), 0);
        for (int place : NO_PLACES) {
            unchanged(Bench::busy, "place(" + place + ", 0)", y -> y.place(place, 0), UNKNOWN);
        }
    }

    static void promise06NoPlaceWithoutADome() {
        for (int place : new int[] {-1, 0, 7, 8}) {
            unchanged(Bench::bare, "place(" + place + ", 0)", x -> x.place(place, 0), UNKNOWN);
            unchanged(() -> typed(RING), "place(" + place + ", 1), not read yet", x -> x.place(place, 1), UNKNOWN);
        }
    }

    static void promise06WhatFrom0To5() {
        WhisperDome x = empty();
        is("place(0, 0)", x.place(0, 0), 1);
        is("place(0, 5)", x.place(0, 5), 128);
        for (int what : new int[] {-1, 6, MIN, MAX}) {
            unchanged(Bench::busy, "place(0, " + what + ")", y -> y.place(0, what), OUTSIDE);
            unchanged(Bench::full, "place(7, " + what + ")", y -> y.place(7, what), OUTSIDE);
        }
    }

    static void promise06UnknownIsToldAheadOfOutside() {
        for (int what : new int[] {-1, 6}) {
            unchanged(Bench::busy, "place(-1, " + what + ")", x -> x.place(-1, what), UNKNOWN);
            unchanged(Bench::busy, "place(8, " + what + ")", x -> x.place(8, what), UNKNOWN);
            unchanged(Bench::bare, "place(0, " + what + ")", x -> x.place(0, what), UNKNOWN);
        }
    }

    static void promise06MinutesFrom0To9() {
        WhisperDome x = under("hgfedcba;01234569");
        is("none later", x.place(0, 1), 0);
        is("nine later", x.place(7, 1), 9);
        is("heard at the last", x.place(0, 0), 7);
        is("heard at the first", x.place(7, 0), 0);
    }

    static void promise06ClothIsThereOrNot() {
        WhisperDome x = empty();
        is("not at first", x.place(7, 2), 0);
        x.cloth(7, true);
        is("then", x.place(7, 2), 1);
        x.cloth(7, false);
        is("and not then", x.place(7, 2), 0);
    }

    static void promise06FromNobodyToAllSixThere() {
        WhisperDome x = empty();
        for (int many = 0; many <= 6; many++) {
            is(many + " there", x.place(7, 3), (1 << many) - 1);
            is("nobody elsewhere", x.place(0, 3), 0);
            x.person(many % 5, 7);
        }
        x.move(5, 0);
        is("one went", x.place(7, 3), 31);
        is("there he is", x.place(0, 3), 32);
    }

    static void promise06RentFrom0To16() {
        is("none is heard there", under(ALL).place(7, 4), 0);
        is("all eight, so itself, too", under(ALL).place(0, 4), 16);
        is("all but itself", under("baaaaaaa;00000000").place(0, 4), 7);
        is("it alone", under(SELF).place(3, 4), 2);
        is("another one alone", under(RING).place(3, 4), 1);
    }

    static void promise06FromNoneToAllHeardThere() {
        is("none", under(ALL).place(7, 5), 0);
        is("all eight", under(ALL).place(0, 5), 255);
        is("all at the last", under("hhhhhhhh;00000000").place(7, 5), 255);
        is("the last alone", under(RING).place(0, 5), 128);
        is("the first alone", under(RING).place(1, 5), 1);
    }

    // ---- promise 7

    static void promise07PlacesFrom0To7() {
        WhisperDome x = empty();
        is("cloth(0, true)", x.cloth(0, true), 0);
        is("cloth(7, true)", x.cloth(7, true), 0);
        is("both have it", x.count(1), 2);
        for (int place : NO_PLACES) {
            unchanged(Bench::busy, "cloth(" + place + ", true)", y -> y.cloth(place, true), UNKNOWN);
            unchanged(Bench::full, "cloth(" + place + ", false)", y -> y.cloth(place, false), UNKNOWN);
        }
    }

    static void promise07NoPlaceWithoutADome() {
        for (int place = -1; place <= 8; place++) {
            int where = place;
            unchanged(() -> typed(RING), "cloth(" + where + ", true)", x -> x.cloth(where, true), UNKNOWN);
        }
    }

    static void promise07FromNoneToAllEight() {
        WhisperDome x = empty();
        for (int place = 0; place < 8; place++) {
            is("how many ahead of " + place, x.count(1), place);
            is("cloth(" + place + ", true)", x.cloth(place, true), 0);
        }
        is("all eight", x.count(1), 8);
        for (int place = 0; place < 8; place++) {
            is("cloth(" + place + ", false)", x.cloth(place, false), 1);
        }
        is("none is left", x.count(1), 0);
        is("all is as at first", x.digest(), empty().digest());
    }

    static void promise07WhatIsSoAlready() {
        unchanged(Bench::full, "cloth(0, true), it has", x -> x.cloth(0, true), 1);
        unchanged(Bench::empty, "cloth(0, false), it has not", x -> x.cloth(0, false), 0);
    }
}
