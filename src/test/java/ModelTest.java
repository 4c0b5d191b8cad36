import java.util.ArrayList;
import java.util.List;
import java.util.Random;

/**
 * Long runs of calls, by fixed seeds, against a model that is as naive as it can be: it writes
 * out every way, one by one, where the class counts them in tables.
 */
public final class ModelTest {
    private static final int RUNS = 400, CALLS = 300;

    public static void main(String[] args) {
        Checks checks = new Checks();
        for (int run = 0; run < RUNS; run++) {
            new Run(checks, run).play();
        }
        checks.end("ModelTest");
    }

    /** One object and its model, given the same calls. */
    private static final class Run {
        private final Checks checks;
        private final int run;
        private final Random random;
        private final HatNames hat = new HatNames();
        private final Model model = new Model();

        Run(Checks checks, int run) {
            this.checks = checks;
            this.run = run;
            random = new Random(run);
        }

        void play() {
            typeCompany();
            for (int call = 0; call < CALLS; call++) {
                if (random.nextInt(120) == 0) {
                    due("blank()", hat.blank(), model.blank());
                    typeCompany();
                }
                step();
            }
            due("digest()", hat.digest(), model.digest());
        }

        private void typeCompany() {
            int size = 2 + random.nextInt(6);
            int houses = 1 + random.nextInt(10);
            String kinds = random.nextInt(3) == 0 ? "pe" : "peksr";
            for (int person = 0; person < size; person++) {
                if (person > 0) {
                    letter(',');
                }
                letter(kinds.charAt(random.nextInt(kinds.length())));
                letter('0' + random.nextInt(houses));
            }
            due("fault()", hat.fault(), model.fault());
            due("company()", hat.company(), model.company());
        }

        private void letter(int code) {
            due("letter(" + code + ")", hat.letter(code), model.letter(code));
        }

        /** Mostly a number that names something, now and then one that does not. */
        private int number(int below) {
            if (random.nextInt(25) > 0) {
                return random.nextInt(Math.max(1, below));
            }
            int[] odd = {-1, below, below + 1, Integer.MIN_VALUE, Integer.MAX_VALUE, 40};
            return odd[random.nextInt(odd.length)];
        }

        private void step() {
            int size = model.size();
            int a = number(size);
            int b = number(size);
            switch (random.nextInt(30)) {
                case 0: case 1: case 2: case 3: case 4: case 5:
                    due("take(" + a + ", " + b + ")", hat.take(a, b), model.take(a, b));
                    break;
                case 6:
                    due("back(" + a + ")", hat.back(a), model.back(a));
                    break;
                case 7: case 8:
                    due("exchange(" + a + ", " + b + ")", hat.exchange(a, b), model.exchange(a, b));
                    break;
                case 9:
                    if (random.nextInt(3) == 0) {
                        due("all()", hat.all(), model.all());
                    }
                    break;
                case 10: case 11:
                    due("bar(" + a + ", " + b + ")", hat.bar(a, b), model.bar(a, b));
                    break;
                case 12:
                    int kind = number(5);
                    int house = number(10);
                    due("change(" + a + ", " + kind + ", " + house + ")",
                            hat.change(a, kind, house), model.change(a, kind, house));
                    break;
                case 13: case 14:
                    int ofWays = number(2);
                    due("ways(" + ofWays + ")", hat.ways(ofWays), model.ways(ofWays));
                    break;
                case 15: case 16:
                    int way = number(model.size() == 0 ? 1 : model.ways(0));
                    due("way(" + way + ", " + a + ")", hat.way(way, a), model.way(way, a));
                    break;
                case 17: case 18:
                    due("hint()", hat.hint(), model.hint());
                    break;
                case 19:
                    due("likely()", hat.likely(), model.likely());
                    break;
                case 20:
                    int ofRings = number(2);
                    due("rings(" + ofRings + ")", hat.rings(ofRings), model.rings(ofRings));
                    break;
                default:
                    rarerStep(a, b);
            }
        }

        private void rarerStep(int a, int b) {
            switch (random.nextInt(12)) {
                case 0: case 1:
                    boolean may = random.nextBoolean();
                    due("see(" + a + ", " + b + ", " + may + ")", hat.see(a, b, may), model.see(a, b, may));
                    break;
                case 2:
                    if (random.nextInt(4) == 0) {
                        due("forget()", hat.forget(), model.forget());
                    }
                    break;
                case 3:
                    int times = number(61);
                    int seed = random.nextInt(4) == 0 ? number(5) : random.nextInt() >>> 1;
                    int what = number(3);
                    due("drawn(" + times + ", " + seed + ", " + what + ")",
                            hat.drawn(times, seed, what), model.drawn(times, seed, what));
                    break;
                case 4:
                    due("image()", hat.image(), model.image());
                    break;
                case 5:
                    due("restore()", hat.restore(), model.restore());
                    break;
                case 6: case 7:
                    int ofPerson = number(9);
                    due("person(" + a + ", " + ofPerson + ")",
                            hat.person(a, ofPerson), model.person(a, ofPerson));
                    break;
                case 8:
                    int kind = number(5);
                    due("as(" + a + ", " + kind + ")", hat.as(a, kind), model.as(a, kind));
                    break;
                case 9:
                    int ofAll = number(10);
                    due("count(" + ofAll + ")", hat.count(ofAll), model.count(ofAll));
                    break;
                case 10:
                    letter(number(127));
                    due("fault()", hat.fault(), model.fault());
                    due("company()", hat.company(), model.company());
                    break;
                default:
                    due("digest()", hat.digest(), model.digest());
            }
        }

        private void due(String call, long got, long want) {
            checks.due("run " + run + ": " + call, got, want);
        }
    }

    private record Seen(int person, int name, boolean may) { }

    /** What an image keeps. */
    private static final class Table {
        List<Character> kinds = new ArrayList<>();
        List<Integer> houses = new ArrayList<>();
        List<Integer> drawn = new ArrayList<>();
        List<List<Integer>> barred = new ArrayList<>();
        List<Seen> seen = new ArrayList<>();
        int draws;

        Table copy() {
            Table copy = new Table();
            copy.kinds.addAll(kinds);
            copy.houses.addAll(houses);
            copy.drawn.addAll(drawn);
            for (List<Integer> bars : barred) {
                copy.barred.add(new ArrayList<>(bars));
            }
            copy.seen.addAll(seen);
            copy.draws = draws;
            return copy;
        }
    }

    private static final class Model {
        private static final String KINDS = "peksr";

        private String page = "";
        private Table table = new Table();
        private Table image;
        private int companies;
        private int hints;

        int size() {
            return table.kinds.size();
        }

        private boolean unknown(int number) {
            return number < 0 || number >= size();
        }

        int letter(int code) {
            if (code < 1 || code > 126) {
                return HatNames.OUTSIDE;
            }
            if (page.length() == 24) {
                return HatNames.FULL;
            }
            page += (char) code;
            return page.length();
        }

        int blank() {
            int had = page.length();
            page = "";
            return had;
        }

        int fault() {
            int good = 0;
            while (good < page.length() && startsCompany(page.substring(0, good + 1))) {
                good++;
            }
            return good;
        }

        private static boolean startsCompany(String text) {
            String rest = "p0,p0,p0,p0,p0,p0,p0".substring(Math.min(20, text.length()));
            return isCompany(text + rest);
        }

        private static boolean isCompany(String text) {
            return text.matches("[peksr][0-9](,[peksr][0-9]){1,6}");
        }

        int company() {
            if (!isCompany(page)) {
                return HatNames.STATE;
            }
            table = new Table();
            for (String person : page.split(",")) {
                table.kinds.add(person.charAt(0));
                table.houses.add(person.charAt(1) - '0');
                table.drawn.add(-1);
                table.barred.add(new ArrayList<>());
            }
            page = "";
            image = null;
            companies++;
            return size();
        }

        private boolean kindMay(char kind, int person, int name) {
            int house = table.houses.get(person);
            int other = table.houses.get(name);
            if (kind == 'e') {
                return true;
            }
            if (person == name) {
                return false;
            }
            if (kind == 's' && (name == person + 1 || name == person - 1)) {
                return false;
            }
            if ((kind == 'k' || kind == 'r') && house == other) {
                return false;
            }
            return kind != 'r' || other != house + 1 && other != house - 1;
        }

        private boolean may(int person, int name) {
            return kindMay(table.kinds.get(person), person, name) && !table.barred.get(person).contains(name);
        }

        private List<int[]> allWays() {
            List<int[]> found = new ArrayList<>();
            int[] names = new int[size()];
            for (int person = 0; person < size(); person++) {
                names[person] = table.drawn.get(person);
            }
            writeWays(names, found);
            return found;
        }

        private void writeWays(int[] names, List<int[]> found) {
            int next = 0;
            while (next < names.length && names[next] >= 0) {
                next++;
            }
            if (next == names.length) {
                found.add(names.clone());
                return;
            }
            for (int name = 0; name < names.length; name++) {
                if (may(next, name) && !has(names, name)) {
                    names[next] = name;
                    writeWays(names, found);
                    names[next] = -1;
                }
            }
        }

        private static boolean has(int[] names, int name) {
            for (int each : names) {
                if (each == name) {
                    return true;
                }
            }
            return false;
        }

        private static int ring(int[] names, int person) {
            int at = person;
            for (int steps = 1; steps <= names.length; steps++) {
                at = names[at];
                if (at < 0) {
                    return 0;
                }
                if (at == person) {
                    return steps;
                }
            }
            return 0;
        }

        private int[] drawnNames() {
            int[] names = new int[size()];
            for (int person = 0; person < size(); person++) {
                names[person] = table.drawn.get(person);
            }
            return names;
        }

        int person(int person, int what) {
            if (unknown(person)) {
                return HatNames.UNKNOWN;
            }
            switch (what) {
                case 0: return KINDS.indexOf(table.kinds.get(person));
                case 1: return table.houses.get(person);
                case 2: return table.drawn.get(person);
                case 3: return mayBits(person);
                case 4: return table.drawn.indexOf(person);
                case 5: return sure(person, allWays());
                case 6: return sorts(table.seen, person);
                case 7: return ask(person);
                case 8: return ring(drawnNames(), person);
                default: return HatNames.OUTSIDE;
            }
        }

        private int mayBits(int person) {
            int bits = 0;
            for (int name = 0; name < size(); name++) {
                bits += may(person, name) ? 1 << name : 0;
            }
            return bits;
        }

        private int sure(int person, List<int[]> ways) {
            if (table.drawn.get(person) >= 0) {
                return table.drawn.get(person);
            }
            for (int[] way : ways) {
                if (way[person] != ways.get(0)[person]) {
                    return -1;
                }
            }
            return ways.isEmpty() ? -1 : ways.get(0)[person];
        }

        private int sorts(List<Seen> seen, int person) {
            int bits = 0;
            for (int kind = 0; kind < 5; kind++) {
                boolean can = true;
                for (Seen one : seen) {
                    can &= one.person() != person || kindMay(KINDS.charAt(kind), person, one.name()) == one.may();
                }
                bits += can ? 1 << kind : 0;
            }
            return bits;
        }

        private int ask(int person) {
            if (sorts(table.seen, person) == 0) {
                return -1;
            }
            int best = -1;
            int fewest = 99;
            for (int name = 0; name < size(); name++) {
                int worst = 0;
                for (boolean may : new boolean[] {true, false}) {
                    List<Seen> then = new ArrayList<>(table.seen);
                    then.add(new Seen(person, name, may));
                    worst = Math.max(worst, Integer.bitCount(sorts(then, person)));
                }
                if (worst < fewest) {
                    fewest = worst;
                    best = name;
                }
            }
            return best;
        }

        int as(int person, int kind) {
            if (unknown(person)) {
                return HatNames.UNKNOWN;
            }
            if (kind < 0 || kind > 4) {
                return HatNames.OUTSIDE;
            }
            String kinds = switch (table.kinds.get(person)) {
                case 'e' -> "pe";
                case 'k' -> "pk";
                case 's' -> "ps";
                case 'r' -> "pkr";
                default -> "p";
            };
            return kinds.indexOf(KINDS.charAt(kind)) >= 0 ? person : -1;
        }

        int take(int person, int name) {
            if (unknown(person) || unknown(name)) {
                return HatNames.UNKNOWN;
            }
            if (table.drawn.get(person) >= 0 || table.drawn.contains(name) || !may(person, name)) {
                return HatNames.STATE;
            }
            table.drawn.set(person, name);
            table.draws++;
            return allWays().size();
        }

        int back(int person) {
            if (unknown(person)) {
                return HatNames.UNKNOWN;
            }
            return table.drawn.get(person) < 0 ? HatNames.STATE : table.drawn.set(person, -1);
        }

        int exchange(int one, int other) {
            if (unknown(one) || unknown(other) || one == other) {
                return HatNames.UNKNOWN;
            }
            int first = table.drawn.get(one);
            int second = table.drawn.get(other);
            if (first < 0 || second < 0 || !may(one, second) || !may(other, first)) {
                return HatNames.STATE;
            }
            table.drawn.set(one, second);
            table.drawn.set(other, first);
            return rings(0);
        }

        int all() {
            if (size() == 0) {
                return HatNames.STATE;
            }
            int had = count(1);
            table.drawn.replaceAll(name -> -1);
            return had;
        }

        int bar(int person, int name) {
            if (unknown(person) || unknown(name)) {
                return HatNames.UNKNOWN;
            }
            if (!table.barred.get(person).remove((Integer) name)) {
                table.barred.get(person).add(name);
            }
            return Integer.bitCount(mayBits(person));
        }

        int change(int person, int kind, int house) {
            if (unknown(person)) {
                return HatNames.UNKNOWN;
            }
            if (kind < 0 || kind > 4 || house < 0 || house > 9) {
                return HatNames.OUTSIDE;
            }
            table.houses.set(person, house);
            return KINDS.indexOf(table.kinds.set(person, KINDS.charAt(kind)));
        }

        int ways(int what) {
            if (what != 0 && what != 1) {
                return HatNames.OUTSIDE;
            }
            if (size() == 0) {
                return HatNames.STATE;
            }
            int many = 0;
            for (int[] way : allWays()) {
                many += what == 0 || ring(way, 0) == size() ? 1 : 0;
            }
            return many;
        }

        int way(int way, int person) {
            if (unknown(person)) {
                return HatNames.UNKNOWN;
            }
            List<int[]> ways = allWays();
            return way < 0 || way >= ways.size() ? HatNames.UNKNOWN : ways.get(way)[person];
        }

        int hint() {
            if (size() == 0 || hints == 20) {
                return HatNames.STATE;
            }
            hints++;
            if (allWays().size() == 1) {
                return -2;
            }
            for (int person = 0; person < size(); person++) {
                for (int name = 0; name < size(); name++) {
                    if (table.drawn.get(person) < 0 && !table.drawn.contains(name) && may(person, name)) {
                        bar(person, name);
                        int left = allWays().size();
                        bar(person, name);
                        if (left == 1) {
                            return 10 * person + name;
                        }
                    }
                }
            }
            return -1;
        }

        int likely() {
            return size() == 0 ? HatNames.STATE : likelyFrom(drawnNames());
        }

        private int likelyFrom(int[] names) {
            for (int person = 0; person < names.length; person++) {
                if (names[person] < 0) {
                    long sum = 0;
                    int open = 0;
                    for (int name = 0; name < names.length; name++) {
                        if (may(person, name) && !has(names, name)) {
                            int[] then = names.clone();
                            then[person] = name;
                            sum += likelyFrom(then);
                            open++;
                        }
                    }
                    return open == 0 ? 0 : (int) (sum / open);
                }
            }
            return 1000000;
        }

        int rings(int what) {
            if (what != 0 && what != 1) {
                return HatNames.OUTSIDE;
            }
            if (size() == 0) {
                return HatNames.STATE;
            }
            int longest = 0;
            int[] inRings = new int[8];
            for (int person = 0; person < size(); person++) {
                int length = ring(drawnNames(), person);
                longest = Math.max(longest, length);
                inRings[length]++;
            }
            int many = 0;
            for (int length = 1; length <= 7; length++) {
                many += inRings[length] / length;
            }
            return what == 0 ? many : longest;
        }

        int see(int person, int name, boolean may) {
            if (unknown(person) || unknown(name)) {
                return HatNames.UNKNOWN;
            }
            if (table.seen.size() == 6) {
                return HatNames.FULL;
            }
            table.seen.add(new Seen(person, name, may));
            return table.seen.size();
        }

        int forget() {
            int was = table.seen.size();
            table.seen.clear();
            return was;
        }

        int drawn(int times, int seed, int what) {
            if (times < 1 || times > 60 || seed < 0 || what < 0 || what > 2) {
                return HatNames.OUTSIDE;
            }
            if (size() == 0) {
                return HatNames.STATE;
            }
            long at = seed;
            int full = 0;
            int many = 0;
            for (int time = 0; time < times; time++) {
                int[] names = drawnNames();
                for (int person = 0; person < size(); person++) {
                    List<Integer> open = new ArrayList<>();
                    for (int name = 0; name < size(); name++) {
                        if (may(person, name) && !has(names, name)) {
                            open.add(name);
                        }
                    }
                    if (names[person] < 0 && open.isEmpty()) {
                        break;
                    }
                    if (names[person] < 0) {
                        at = (1103515245L * at + 12345L) % (1L << 31);
                        names[person] = open.get((int) (at / 65536 % open.size()));
                        many++;
                    }
                }
                full += has(names, -1) ? 0 : 1;
            }
            return what == 0 ? full : what == 1 ? many : (int) at;
        }

        int image() {
            if (size() == 0) {
                return HatNames.STATE;
            }
            image = table.copy();
            return table.draws;
        }

        int restore() {
            if (image == null) {
                return HatNames.STATE;
            }
            table = image.copy();
            return table.draws;
        }

        int count(int what) {
            int have = 0;
            int bars = 0;
            int amiss = 0;
            int sure = 0;
            List<int[]> ways = what == 4 ? allWays() : List.of();
            for (int person = 0; person < size(); person++) {
                int name = table.drawn.get(person);
                have += name >= 0 ? 1 : 0;
                bars += table.barred.get(person).size();
                amiss += name >= 0 && !may(person, name) ? 1 : 0;
                sure += sure(person, ways) >= 0 ? 1 : 0;
            }
            int[] counts = {size(), have, bars, amiss, sure, table.draws, table.seen.size(),
                page.length(), companies, hints};
            return what < 0 || what > 9 ? HatNames.OUTSIDE : counts[what];
        }

        long digest() {
            List<Long> numbers = new ArrayList<>();
            for (int person = 0; person < size(); person++) {
                for (int what = 0; what <= 8; what++) {
                    numbers.add((long) person(person, what));
                }
            }
            if (size() > 0) {
                numbers.add((long) ways(0));
                numbers.add((long) ways(1));
                numbers.add((long) likely());
                numbers.add((long) rings(0));
                numbers.add((long) rings(1));
            }
            for (char letter : page.toCharArray()) {
                numbers.add((long) letter);
            }
            for (int what = 0; what <= 9; what++) {
                numbers.add((long) count(what));
            }
            long h = 1361;
            for (long number : numbers) {
                h = 31 * h + number;
            }
            return h;
        }
    }
}
