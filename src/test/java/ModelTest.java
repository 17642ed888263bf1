import java.util.Random;

/** Long runs of calls by a seed, each answer held against PlainDome's, with the digest of all behind each call. */
public final class ModelTest {
    private static final int RUNS = 600;
    /** Nothing is promised beyond these; the last 20 leave room for typing a dome. */
    private static final int CALLS = 512;
    private static final int[] EDGES = {-1, Integer.MIN_VALUE, Integer.MAX_VALUE, 6, 7, 8, 9, 10, 20, 60, 61, 126, 127};
    private static final Due due = new Due();

    private final Random random;
    private final WhisperDome dome = new WhisperDome();
    private final PlainDome plain = new PlainDome();
    private int calls = 0;
    private final int run;

    private ModelTest(int run) {
        this.run = run;
        random = new Random(1000003L * run + 17);
    }

    public static void main(String[] args) {
        for (int run = 0; run < RUNS; run++) {
            new ModelTest(run).play();
        }
        due.end("ModelTest");
    }

    private void play() {
        if (random.nextInt(20) != 0) {
            typeDome();
        }
        for (int most = random.nextInt(7); most > 0; most--) {
            step(6);
        }
        while (calls < CALLS - 20) {
            int what = random.nextInt(120);
            if (what == 0) {
                typeDome();
            } else {
                step(what % 24);
            }
        }
    }

    /** A dome of few heard places more often than not, so that many hear many. */
    private void typeDome() {
        int spread = 1 + random.nextInt(8);
        told("blank()", dome.blank(), plain.blank());
        for (int at = 0; at < 17; at++) {
            int code = at == 8 ? ';' : at < 8 ? 'a' + random.nextInt(spread) : '0' + random.nextInt(10);
            told("letter(" + code + ")", dome.letter(code), plain.letter(code));
        }
        told("dome()", dome.dome(), plain.dome());
    }

    private int number(int below) {
        return random.nextInt(14) == 0 ? EDGES[random.nextInt(EDGES.length)] : random.nextInt(below);
    }

    private void told(String call, long got, long want) {
        calls++;
        due.is("run " + run + ", call " + calls + ": " + call, got, want);
    }

    private void step(int which) {
        boolean is = random.nextInt(3) != 0;
        int person = number(6), other = number(6), place = number(8), kind = number(5);
        String two = "(" + person + ", " + other + ")";
        switch (which) {
            case 0: int code = number(127); told("letter(" + code + ")", dome.letter(code), plain.letter(code)); break;
            case 1: told("blank()", dome.blank(), plain.blank()); break;
            case 2: told("fault()", dome.fault(), plain.fault()); break;
            case 3: told("dome()", dome.dome(), plain.dome()); break;
            case 4: told("place(" + place + ", " + other + ")", dome.place(place, other), plain.place(place, other)); break;
            case 5: told("cloth(" + place + ", " + is + ")", dome.cloth(place, is), plain.cloth(place, is)); break;
            case 6: told("person(" + kind + ", " + place + ")", dome.person(kind, place), plain.person(kind, place)); break;
            case 7: told("about" + two, dome.about(person, other), plain.about(person, other)); break;
            case 8: told("as(" + person + ", " + kind + ")", dome.as(person, kind), plain.as(person, kind)); break;
            case 9: told("move(" + person + ", " + place + ")", dome.move(person, place), plain.move(person, place)); break;
            case 10: int word = number(10); told("say(" + person + ", " + word + ")", dome.say(person, word), plain.say(person, word)); break;
            case 11: told("hears" + two, dome.hears(person, other), plain.hears(person, other)); break;
            case 12: int of = number(2); told("screens" + two + " " + of, dome.screens(person, other, of), plain.screens(person, other, of)); break;
            case 13: told("stand" + two, dome.stand(person, other), plain.stand(person, other)); break;
            case 14: told("trial(" + person + ", " + is + ")", dome.trial(person, is), plain.trial(person, is)); break;
            default: stepOfAll(which); break;
        }
        told("digest() behind that", dome.digest(), plain.digest());
    }

    private void stepOfAll(int which) {
        switch (which) {
            case 15: told("forget()", dome.forget(), plain.forget()); break;
            case 16: told("who()", dome.who(), plain.who()); break;
            case 17: told("ask()", dome.ask(), plain.ask()); break;
            case 18: case 19:
                int times = number(61), seed = random.nextInt(), what = number(3);
                String call = "days(" + times + ", " + seed + ", " + what + ")";
                told(call, dome.days(times, seed, what), plain.days(times, seed, what));
                break;
            case 20: told("image()", dome.image(), plain.image()); break;
            case 21: told("restore()", dome.restore(), plain.restore()); break;
            case 22: int of = number(8); told("count(" + of + ")", dome.count(of), plain.count(of)); break;
            default: told("digest()", dome.digest(), plain.digest()); break;
        }
    }
}
