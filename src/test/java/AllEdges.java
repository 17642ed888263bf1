import java.math.BigInteger;
import java.util.ArrayList;
import java.util.List;

/** Promises 21 to 24: the image, what is counted, the digest of all. */
final class AllEdges extends Bench {

    /** Two people, and an image of them. */
    private static WhisperDome imaged() {
        WhisperDome x = under(RING, PERSON, 0, GOSSIP, 1);
        x.image();
        return x;
    }

    /** Read again behind an image. */
    private static WhisperDome domeSince() {
        WhisperDome x = type(imaged(), RING);
        x.dome();
        x.person(PERSON, 4);
        return x;
    }

    // ---- promise 21

    static void promise21NoDomeIsRefused() {
        unchanged(Bench::bare, "image()", x -> x.image(), STATE);
        unchanged(Bench::fullPage, "image() of a full page", x -> x.image(), STATE);
        WhisperDome x = typed(RING);
        x.image();
        x.dome();
        is("a refused one keeps nothing", x.restore(), STATE);
    }

    static void promise21FromNobodyToSix() {
        WhisperDome x = empty();
        for (int many = 0; many <= 6; many++) {
            is("image() of " + many, x.image(), many);
            is("restore() of " + many, x.restore(), many);
            x.person(PERSON, many);
        }
        is("image() of six", x.image(), 6);
    }

    static void promise21TheLatestIsKept() {
        WhisperDome x = under(RING, PERSON, 0);
        x.image();
        x.move(0, 5);
        x.image();
        x.move(0, 6);
        is("restore()", x.restore(), 1);
        is("where he was at the latest", x.about(0, 1), 5);
    }

    static void promise21KeepingChangesNothing() {
        WhisperDome x = under(RING, PERSON, 0, GOSSIP, 1);
        x.say(0, 2);
        still(x, "image()", () -> x.image(), 2);
        still(x, "restore() at once", () -> x.restore(), 2);
    }

    // ---- promise 22

    static void promise22NoneWasKept() {
        unchanged(Bench::bare, "restore() without a DOME", x -> x.restore(), STATE);
        unchanged(Bench::empty, "restore() of nobody", x -> x.restore(), STATE);
        unchanged(() -> under(RING, PERSON, 0), "restore() of one", x -> x.restore(), STATE);
    }

    static void promise22AnotherDomeSince() {
        unchanged(AllEdges::domeSince, "restore()", x -> x.restore(), STATE);
        WhisperDome x = domeSince();
        is("an image under that", x.image(), 1);
        is("is restored", x.restore(), 1);
    }

    static void promise22ARefusedDomeIsNoOther() {
        WhisperDome x = type(imaged(), RING + "0");
        is("dome()", x.dome(), STATE);
        is("restore()", x.restore(), 2);
    }

    static void promise22AgainAndAgain() {
        WhisperDome x = imaged();
        for (int many = 0; many < 3; many++) {
            x.move(0, 7);
            x.say(0, many);
            is("restore()", x.restore(), 2);
            is("where he was", x.about(0, 1), 0);
            is("what he knew", x.about(0, 2), 0);
        }
    }

    static void promise22WhoCameSinceIsGone() {
        WhisperDome x = under(RING, PERSON, 0, PERSON, 1, PERSON, 2, PERSON, 3, PERSON, 4);
        x.image();
        is("the sixth", x.person(CRIER, 5), 5);
        x.say(5, 1);
        is("the seventh", x.person(CRIER, 5), FULL);
        is("restore()", x.restore(), 5);
        is("he is gone", x.about(5, 0), UNKNOWN);
        is("his place is empty", x.place(5, 3), 0);
        is("another sixth", x.person(DEAF, 6), 5);
        is("of his own kind", x.about(5, 0), DEAF);
        is("he knows nothing", x.about(5, 2), 0);
        is("the seventh", x.person(CRIER, 5), FULL);
    }

    static void promise22ToNobody() {
        WhisperDome x = empty();
        x.image();
        x.person(PERSON, 0);
        is("restore()", x.restore(), 0);
        is("as at first", x.digest(), empty().digest());
        is("no days of nobody", x.days(1, 0, 0), STATE);
    }

    static void promise22AllThatAnImageKeeps() {
        WhisperDome x = imaged();
        x.say(0, 4);
        x.cloth(7, true);
        x.trial(0, true);
        x.image();
        long before = x.digest();
        is("who by the trial", x.who(), 1);
        x.move(1, 6);
        x.restore();
        is("places", x.digest(), before);
        x.say(1, 5);
        x.restore();
        is("what each knows, how often it was said", x.digest(), before);
        x.cloth(7, false);
        x.cloth(0, true);
        x.restore();
        is("cloth", x.digest(), before);
        x.trial(1, false);
        x.restore();
        is("trials that came", x.digest(), before);
        x.forget();
        x.restore();
        is("trials that went", x.digest(), before);
        x.forget();
        x.trial(1, false);
        x.image();
        is("who by that one, nobody", x.who(), 0);
        x.forget();
        x.restore();
        is("who by that one again", x.who(), 0);
        is("how many trials", x.count(4), 1);
    }

    static void promise22WhatAnImageDoesNotKeep() {
        WhisperDome x = imaged();
        type(x, "abc");
        x.screens(0, 1, 0);
        is("restore()", x.restore(), 2);
        is("the page stays", x.count(5), 3);
        is("its letters, too", x.fault(), 3);
        is("a DOME was read", x.count(6), 1);
        is("screens() were done", x.count(7), 1);
    }

    static void promise22ScreensStayDone() {
        WhisperDome x = imaged();
        for (int many = 0; many < 20; many++) {
            x.screens(0, 1, 0);
        }
        x.restore();
        is("time 21", x.screens(0, 1, 0), STATE);
    }

    // ---- promise 23

    static void promise23WhatFrom0To7() {
        is("count(0)", full().count(0), 6);
        is("count(7)", full().count(7), 20);
        for (int what : new int[] {-1, 8, MIN, MAX}) {
            unchanged(Bench::bare, "count(" + what + ") without a DOME", x -> x.count(what), OUTSIDE);
            unchanged(Bench::full, "count(" + what + ")", x -> x.count(what), OUTSIDE);
        }
    }

    static void promise23AllThatIsFull() {
        int[] most = {6, 8, 8, 2, 8, 20, 1, 20};
        for (int what = 0; what < 8; what++) {
            int which = what;
            unchanged(Bench::full, "count(" + what + ")", x -> x.count(which), most[what]);
        }
    }

    static void promise23AllThatIsEmpty() {
        int[] least = {0, 0, 0, 0, 0, 0, 1, 0};
        for (int what = 0; what < 8; what++) {
            is("count(" + what + ") of no DOME", bare().count(what), 0);
            is("count(" + what + ") of nobody", empty().count(what), least[what]);
        }
    }

    static void promise23WordsThatAllKnowTogether() {
        WhisperDome x = under(SELF, PERSON, 0, PERSON, 0, PERSON, 0, PERSON, 0, PERSON, 0, PERSON, 0);
        for (int word = 0; word <= 9; word++) {
            is("ahead of word " + word, x.count(2), 6 * word);
            x.say(word % 6, word);
        }
        is("ten of six", x.count(2), 60);
    }

    static void promise23HowOftenADomeWasRead() {
        WhisperDome x = bare();
        for (int many = 0; many < 5; many++) {
            is("how often", x.count(6), many);
            type(x, many % 2 == 0 ? RING : SELF).dome();
            x.dome();
        }
        is("how often", x.count(6), 5);
    }

    // ---- promise 24

    static void promise24WithoutADome() {
        is("of a new object", bare().digest(), mixed(0, 0, 0, 0, 0, 0, 0, 0));
        is("of one letter", typed("~").digest(), mixed(126, 0, 0, 0, 0, 0, 1, 0, 0));
        is("of twenty", typed("aaaaaaaaaaaaaaaaaaaa").digest(), mixed(97, 97, 97, 97, 97, 97, 97, 97, 97, 97,
                97, 97, 97, 97, 97, 97, 97, 97, 97, 97, 0, 0, 0, 0, 0, 20, 0, 0));
    }

    static void promise24OfNobody() {
        is("nobody, WHO is 0, ASK is NONE", empty().digest(), mixed(
                1, 1, 0, 0, 1, 128, 2, 2, 0, 0, 1, 1, 3, 3, 0, 0, 1, 2, 4, 4, 0, 0, 1, 4,
                5, 5, 0, 0, 1, 8, 6, 6, 0, 0, 1, 16, 7, 7, 0, 0, 1, 32, 0, 8, 0, 0, 1, 64,
                0, NONE, 0, 0, 0, 0, 0, 0, 1, 0));
    }

    static void promise24OrderOfLettersMatters() {
        is("ab", typed("ab").digest(), mixed(97, 98, 0, 0, 0, 0, 0, 2, 0, 0));
        is("ba", typed("ba").digest(), mixed(98, 97, 0, 0, 0, 0, 0, 2, 0, 0));
    }

    static void promise24AsLongsWrapping() {
        for (WhisperDome x : new WhisperDome[] {bare(), fullPage(), empty(), busy(), full()}) {
            BigInteger h = BigInteger.valueOf(937);
            for (long number : numbers(x)) {
                h = h.multiply(BigInteger.valueOf(31)).add(BigInteger.valueOf(number));
            }
            is("digest() of " + h.bitLength() + " bits", x.digest(), h.longValue());
        }
        due.holds("that of a new object needs no wrapping", bare().digest() < 1L << 50);
    }

    /** All that the digest is made of, by the calls themselves; no call tells letters, but Bench's pages are known. */
    private static long[] numbers(WhisperDome x) {
        List<Long> all = new ArrayList<>();
        boolean dome = x.count(6) > 0;
        for (int at = 0; dome && at < 48; at++) {
            all.add((long) x.place(at / 6, at % 6));
        }
        for (int one = 0; one < x.count(0); one++) {
            for (int what = 0; what < 4; what++) {
                all.add((long) x.about(one, what));
            }
            for (int other = 0; other < x.count(0); other++) {
                all.add((long) x.hears(one, other));
            }
        }
        if (dome) {
            all.add((long) x.who());
            all.add((long) x.ask());
        }
        String page = !dome ? "abcdefgh;01234567890" : x.count(0) == 3 ? "ab;" : RING + "abc";
        for (int at = 0; at < x.count(5); at++) {
            all.add((long) page.charAt(at));
        }
        for (int what = 0; what < 8; what++) {
            all.add((long) x.count(what));
        }
        return all.stream().mapToLong(Long::longValue).toArray();
    }

    static void promise24TellingChangesNothing() {
        for (WhisperDome x : new WhisperDome[] {bare(), fullPage(), empty(), busy(), full()}) {
            is("digest() again", x.digest(), x.digest());
        }
        long before = full().digest();
        unchanged(Bench::full, "digest()", x -> x.digest(), before);
    }

    static void promise24EachNumberIsSeen() {
        long before = busy().digest();
        differs("cloth", before, x -> x.cloth(0, true));
        differs("another place", before, x -> x.move(2, 5));
        differs("a word known", before, x -> x.say(0, 9));
        differs("a word said that all know", before, x -> x.say(0, 5));
        differs("one more", before, x -> x.person(PERSON, 5));
        differs("a trial", before, x -> x.trial(0, true));
        differs("a letter", before, x -> x.letter(1));
        differs("screens() done", before, x -> x.screens(0, 1, 0));
    }

    private static void differs(String what, long before, Call change) {
        WhisperDome x = busy();
        change.on(x);
        due.holds(what + " is seen", x.digest() != before);
    }
}
