import java.util.ArrayList;
import java.util.List;

/**
 * The document a second time, written from its words alone and in other ways than the class:
 * texts, lists and relaxation until nothing changes. ModelTest holds the two against each other.
 */
final class PlainDome {
    private static final int NONE = -1, UNKNOWN = -101, OUTSIDE = -102, STATE = -103, FULL = -104;
    private static final String DOME = "[a-h]{8};[0-9]{8}";

    private record Someone(int kind, int place, int known) {
        Someone at(int other) {
            return new Someone(kind, other, known);
        }

        boolean knows(int word) {
            return (known & (1 << word)) != 0;
        }

        Someone knowing(int word) {
            return new Someone(kind, place, known | (1 << word));
        }
    }

    private record Trial(int person, boolean heard) {
    }

    private String page = "";
    private String dome = null;
    private List<Someone> people = new ArrayList<>();
    private boolean[] cloth = new boolean[8];
    private List<Trial> trials = new ArrayList<>();
    private int said = 0, domes = 0, screens = 0;
    private List<Someone> keptPeople = null;
    private boolean[] keptCloth = null;
    private List<Trial> keptTrials = null;
    private int keptSaid = 0;

    int letter(int code) {
        if (code < 1 || code > 126) return OUTSIDE;
        if (page.length() == 20) return FULL;
        page += (char) code;
        return page.length();
    }

    int blank() {
        int had = page.length();
        page = "";
        return had;
    }

    int fault() {
        String full = "aaaaaaaa;00000000";
        for (int end = 1; end <= page.length(); end++) {
            String start = page.substring(0, end);
            if (end > 17 || !(start + full.substring(end)).matches(DOME)) return end - 1;
        }
        return page.length();
    }

    int dome() {
        if (!page.matches(DOME)) return STATE;
        dome = page;
        page = "";
        people = new ArrayList<>();
        cloth = new boolean[8];
        trials = new ArrayList<>();
        said = 0;
        keptPeople = null;
        domes++;
        int many = 0;
        for (int p = 0; p < 8; p++) if (heardAt(p) != p) many++;
        return many;
    }

    private int heardAt(int place) {
        return dome.charAt(place) - 'a';
    }

    private int later(int place) {
        return dome.charAt(9 + place) - '0';
    }

    private boolean noPlace(int place) {
        return dome == null || place < 0 || place > 7;
    }

    private boolean nobody(int person) {
        return person < 0 || person >= people.size();
    }

    int place(int place, int what) {
        if (noPlace(place)) return UNKNOWN;
        if (what < 0 || what > 5) return OUTSIDE;
        int here = 0, from = 0;
        for (int i = 0; i < people.size(); i++) if (people.get(i).place() == place) here += 1 << i;
        for (int p = 0; p < 8; p++) if (heardAt(p) == place) from += 1 << p;
        int rent = Integer.bitCount(from) * (heardAt(place) == place ? 2 : 1);
        return new int[] {heardAt(place), later(place), cloth[place] ? 1 : 0, here, rent, from}[what];
    }

    int cloth(int place, boolean is) {
        if (noPlace(place)) return UNKNOWN;
        int had = cloth[place] ? 1 : 0;
        cloth[place] = is;
        return had;
    }

    int person(int kind, int place) {
        if (kind < 0 || kind > 4) return OUTSIDE;
        if (noPlace(place)) return UNKNOWN;
        if (people.size() == 6) return FULL;
        people.add(new Someone(kind, place, 0));
        return people.size() - 1;
    }

    /** Behind how many minutes each one hears it; -1: never. */
    private int[] times(List<Someone> all, boolean[] hung, int from) {
        int[] at = new int[all.size()];
        java.util.Arrays.fill(at, NONE);
        if (all.get(from).kind() == 3) return at;
        at[from] = 0;
        boolean changed = true;
        while (changed) {
            changed = false;
            for (int i = 0; i < all.size(); i++) {
                Someone teller = all.get(i);
                boolean tells = i == from || teller.kind() == 2 || teller.kind() == 4;
                if (at[i] == NONE || !tells) continue;
                for (int j = 0; j < all.size(); j++) {
                    int way = way(teller, all.get(j), hung);
                    if (j == from || way == NONE) continue;
                    if (at[j] == NONE || at[j] > at[i] + way) {
                        at[j] = at[i] + way;
                        changed = true;
                    }
                }
            }
        }
        return at;
    }

    private int way(Someone teller, Someone hearer, boolean[] hung) {
        if (hearer.kind() == 1) return NONE;
        if (hearer.place() == teller.place()) return 0;
        if (hearer.place() != heardAt(teller.place())) return NONE;
        return hung[hearer.place()] && teller.kind() != 4 ? NONE : later(teller.place());
    }

    private int hearers(List<Someone> all, boolean[] hung, int from) {
        int[] at = times(all, hung, from);
        int bits = 0;
        for (int i = 0; i < at.length; i++) if (at[i] != NONE) bits += 1 << i;
        return bits;
    }

    int about(int person, int what) {
        if (nobody(person)) return UNKNOWN;
        if (what < 0 || what > 3) return OUTSIDE;
        Someone one = people.get(person);
        return new int[] {one.kind(), one.place(), one.known(), hearers(people, cloth, person)}[what];
    }

    int as(int person, int kind) {
        if (nobody(person)) return UNKNOWN;
        if (kind < 0 || kind > 4) return OUTSIDE;
        List<List<Integer>> kindsOf = List.of(List.of(0), List.of(0, 1), List.of(0, 2), List.of(0, 3), List.of(0, 2, 4));
        return kindsOf.get(people.get(person).kind()).contains(kind) ? person : NONE;
    }

    int move(int person, int place) {
        if (nobody(person) || noPlace(place)) return UNKNOWN;
        int was = people.get(person).place();
        people.set(person, people.get(person).at(place));
        return was;
    }

    private int told(List<Someone> all, int person, int word) {
        int[] at = times(all, cloth, person);
        int many = 0;
        for (int i = 0; i < at.length; i++) {
            if (at[i] != NONE && !all.get(i).knows(word)) {
                all.set(i, all.get(i).knowing(word));
                many++;
            }
        }
        return many;
    }

    int say(int person, int word) {
        if (nobody(person)) return UNKNOWN;
        if (word < 0 || word > 9) return OUTSIDE;
        if (people.get(person).kind() == 3) return STATE;
        said++;
        return told(people, person, word);
    }

    int hears(int from, int to) {
        if (nobody(from) || nobody(to)) return UNKNOWN;
        return times(people, cloth, from)[to];
    }

    int screens(int from, int to, int what) {
        if (nobody(from) || nobody(to) || from == to) return UNKNOWN;
        if (what != 0 && what != 1) return OUTSIDE;
        if (screens == 20) return STATE;
        screens++;
        for (int few = 0; few <= 8; few++) {
            for (int bits = 0; bits < 256; bits++) {
                if (Integer.bitCount(bits) == few && screened(from, to, bits)) return what == 0 ? few : bits;
            }
        }
        return NONE;
    }

    private boolean screened(int from, int to, int bits) {
        boolean[] hung = cloth.clone();
        for (int p = 0; p < 8; p++) {
            if ((bits >> p) % 2 == 0) continue;
            if (cloth[p]) return false;
            hung[p] = true;
        }
        return times(people, hung, from)[to] == NONE;
    }

    /** By where sounds go alone: none but the two may be where either is heard. */
    int stand(int a, int b) {
        if (nobody(a) || nobody(b) || a == b) return UNKNOWN;
        for (int pa = 0; pa < 8; pa++) {
            for (int pb = 0; pb < 8; pb++) {
                Someone one = people.get(a).at(pa), other = people.get(b).at(pb);
                if (one.kind() == 3 || other.kind() == 3) continue;
                if (way(one, other, cloth) == NONE || way(other, one, cloth) == NONE) continue;
                boolean alone = true;
                for (int i = 0; i < people.size(); i++) {
                    if (i == a || i == b) continue;
                    alone &= way(one, people.get(i), cloth) == NONE && way(other, people.get(i), cloth) == NONE;
                }
                if (alone) return 8 * pa + pb;
            }
        }
        return NONE;
    }

    int trial(int person, boolean heard) {
        if (nobody(person)) return UNKNOWN;
        if (trials.size() == 8) return FULL;
        trials.add(new Trial(person, heard));
        return trials.size();
    }

    int forget() {
        int had = trials.size();
        trials.clear();
        return had;
    }

    private int whoBy(List<Trial> told) {
        int bits = 0;
        for (int c = 0; c < people.size(); c++) {
            if (people.get(c).kind() == 3) continue;
            int[] at = times(people, cloth, c);
            boolean so = true;
            for (Trial t : told) so &= t.heard() == (at[t.person()] != NONE);
            if (so) bits += 1 << c;
        }
        return bits;
    }

    int who() {
        return dome == null ? STATE : whoBy(trials);
    }

    int ask() {
        if (dome == null) return STATE;
        if (whoBy(trials) == 0) return NONE;
        int best = NONE, least = 99;
        for (int p = 0; p < people.size(); p++) {
            int worst = 0;
            for (boolean heard : new boolean[] {true, false}) {
                List<Trial> more = new ArrayList<>(trials);
                more.add(new Trial(p, heard));
                worst = Math.max(worst, Integer.bitCount(whoBy(more)));
            }
            if (worst < least) {
                least = worst;
                best = p;
            }
        }
        return best;
    }

    private long seed = 0;

    private int drawn(int of) {
        seed = (seed * 1103515245L + 12345L) & 0x7fffffffL;
        return (int) ((seed >> 16) % of);
    }

    int days(int times, int seedFirst, int what) {
        if (times < 1 || times > 60 || seedFirst < 0 || what < 0 || what > 2) return OUTSIDE;
        if (people.isEmpty()) return STATE;
        List<Someone> all = new ArrayList<>(people);
        seed = seedFirst;
        int many = 0;
        for (int day = 0; day < times; day++) {
            int goes = drawn(all.size());
            all.set(goes, all.get(goes).at(drawn(8)));
            int says = drawn(all.size()), word = drawn(10);
            if (all.get(says).kind() != 3) many += told(all, says, word);
        }
        return what == 0 ? many : what == 1 ? known(all) : (int) seed;
    }

    private static int known(List<Someone> all) {
        int many = 0;
        for (Someone one : all) many += Integer.bitCount(one.known());
        return many;
    }

    int image() {
        if (dome == null) return STATE;
        keptPeople = new ArrayList<>(people);
        keptCloth = cloth.clone();
        keptTrials = new ArrayList<>(trials);
        keptSaid = said;
        return people.size();
    }

    int restore() {
        if (keptPeople == null) return STATE;
        people = new ArrayList<>(keptPeople);
        cloth = keptCloth.clone();
        trials = new ArrayList<>(keptTrials);
        said = keptSaid;
        return people.size();
    }

    int count(int what) {
        if (what < 0 || what > 7) return OUTSIDE;
        int hung = 0;
        for (boolean is : cloth) if (is) hung++;
        return new int[] {people.size(), hung, known(people), said, trials.size(), page.length(), domes, screens}[what];
    }

    long digest() {
        List<Long> numbers = new ArrayList<>();
        for (int p = 0; dome != null && p < 8; p++) {
            for (int what = 0; what < 6; what++) numbers.add((long) place(p, what));
        }
        for (int i = 0; i < people.size(); i++) {
            for (int what = 0; what < 4; what++) numbers.add((long) about(i, what));
            for (int j = 0; j < people.size(); j++) numbers.add((long) hears(i, j));
        }
        if (dome != null) {
            numbers.add((long) who());
            numbers.add((long) ask());
        }
        for (char letter : page.toCharArray()) numbers.add((long) letter);
        for (int what = 0; what < 8; what++) numbers.add((long) count(what));
        long h = 937;
        for (long number : numbers) h = 31 * h + number;
        return h;
    }
}
