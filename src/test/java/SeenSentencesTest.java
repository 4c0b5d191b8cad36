/** What is seen, and draws by a seed: section 3, promises 19 to 21. */
public final class SeenSentencesTest extends Sentences {
    /** Person 0 sees his own house, the houses next to it and others, beside him and not. */
    private static final String HOUSES = "p5,p5,p6,p0,p4,p7";
    /** Which kinds may draw each name, if person 0 there is of them. */
    private static final int[] WHO_MAY = {2, 1 + 2, 1 + 2 + 4 + 8, 31, 1 + 2 + 4 + 8, 31};

    public static void main(String[] args) throws IllegalAccessException {
        run(SeenSentencesTest.class, 19, 21);
    }

    @Says(at = "section 3", words = "SEEN (6 at most)")
    static void sixAtMost() {
        HatNames hat = Checks.company("p0,p0,p0");
        due("see 1", hat.see(0, 0, true), 1);
        due("see 2", hat.see(1, 0, false), 2);
        due("see 3", hat.see(2, 0, true), 3);
        due("see 4", hat.see(0, 1, false), 4);
        due("see 5", hat.see(1, 1, true), 5);
        due("see 6", hat.see(2, 2, false), 6);
        due("see 7", hat.see(0, 2, true), FULL);
        due("see 7, of another", hat.see(1, 2, true), FULL);
        due("count(6)", hat.count(6), 6);
        due("the sixth counts", hat.person(2, 6), 1 + 8);
    }

    @Says(at = "section 3", words = "that a PERSON, of whom it is not known of which KIND he is, MAY draw a NAME"
            + " (BARRED or not), or may not")
    static void seenOfAKind() {
        for (int name = 0; name < 6; name++) {
            HatNames hat = Checks.company(HOUSES);
            hat.see(0, name, true);
            due("may draw " + name, hat.person(0, 6), WHO_MAY[name]);
            hat.bar(0, name);
            due("may draw " + name + ", barred", hat.person(0, 6), WHO_MAY[name]);
            hat.forget();
            hat.see(0, name, false);
            due("may not draw " + name + ", barred", hat.person(0, 6), 31 - WHO_MAY[name]);
            hat.bar(0, name);
            due("may not draw " + name, hat.person(0, 6), 31 - WHO_MAY[name]);
            for (int kind = 0; kind <= 4; kind++) {
                hat.change(0, kind, 5);
                due("whatever he is, " + kind, hat.person(0, 6), 31 - WHO_MAY[name]);
            }
        }
    }

    @Says(at = "section 3", words = "SORTS (KINDS 0 to 4) he can be of, HOUSES as they are")
    static void sortsByHousesAsTheyAre() {
        HatNames hat = Checks.company("p5,p0,p6");
        hat.see(0, 2, true);
        each(hat, 6, 15, 31, 31);
        hat.change(2, 0, 5);
        each(hat, 6, 11, 31, 31);
        hat.change(0, 0, 9);
        each(hat, 6, 31, 31, 31);
        hat.change(2, 0, 0);
        each(hat, 6, 31, 31, 31);
    }

    @Says(at = "section 3", words = "so that all that is SEEN of him is so: as bits")
    static void sortsOfAllThatIsSeen() {
        HatNames hat = Checks.company(HOUSES);
        each(hat, 6, 31, 31, 31, 31, 31, 31);
        hat.see(0, 2, true);
        hat.see(5, 5, true);
        hat.see(0, 1, false);
        hat.see(4, 5, true);
        each(hat, 6, 4 + 8, 31, 31, 31, 1 + 2 + 4 + 16, 2);
        hat.see(0, 0, true);
        each(hat, 6, 0, 31, 31, 31, 1 + 2 + 4 + 16, 2);
    }

    @Says(at = "section 3", words = "ASK for a PERSON: which NAME to ask next, so that fewest of these are left at"
            + " worst")
    static void askFewestLeft() {
        HatNames hat = Checks.company(HOUSES);
        due("of five: 1 leaves 3, the others more", hat.person(0, 7), 1);
        hat.see(0, 1, false);
        due("of kin, shy, proud: 2 leaves 2", hat.person(0, 7), 2);
        // Plain, kin or proud: only the house next to his, far off, tells them apart.
        hat = Checks.company("p5,p0,p0,p0,p0,p0,p6");
        hat.see(0, 0, false);
        hat.see(0, 1, true);
        due("sorts", hat.person(0, 6), 1 + 4 + 16);
        due("the last name", hat.person(0, 7), 6);
        hat.bar(0, 6);
        due("barred or not", hat.person(0, 7), 6);
        hat.take(5, 6);
        due("in the hat or not", hat.person(0, 7), 6);
    }

    @Says(at = "section 3", words = "of like ones the least")
    static void askTheLeast() {
        HatNames hat = Checks.company("p5,p5,p5");
        due("1 and 2 leave 3 alike", hat.person(0, 7), 1);
        due("0 and 1 leave 3 alike", hat.person(2, 7), 0);
        hat.see(0, 0, true);
        due("one sort: all leave it", hat.person(0, 7), 0);
        hat = Checks.company(HOUSES);
        hat.see(0, 1, false);
        hat.see(0, 2, true);
        due("two sorts that nothing tells apart", hat.person(0, 7), 0);
    }

    @Says(at = "section 3", words = "none, if there are none")
    static void askNone() {
        HatNames hat = Checks.company(HOUSES);
        hat.see(0, 3, false);
        due("sorts", hat.person(0, 6), 0);
        each(hat, 7, NONE, 0);
        hat.forget();
        each(hat, 7, 1, 0);
    }

    /** The seed behind so many draws, in longs, as the document has it. */
    private static int seedBehind(int seed, int draws) {
        long at = seed;
        for (int draw = 0; draw < draws; draw++) {
            at = (1103515245L * at + 12345L) % 2147483648L;
        }
        return (int) at;
    }

    private static void drawnOf(HatNames hat, int times, int seed, int all, int names) {
        String call = "drawn(" + times + ", " + seed + ", ";
        due(call + "0)", hat.drawn(times, seed, 0), all);
        due(call + "1)", hat.drawn(times, seed, 1), names);
        due(call + "2)", hat.drawn(times, seed, 2), seedBehind(seed, names));
    }

    @Says(at = "section 3", words = "each that NAME, of those he MAY, by number, that a DRAW of how many these are"
            + " tells")
    static void drawnByNumber() {
        // From seed 1 the draws are 16838, 5758, 10113, 17515, 31051, 5627, 23010, 7419, 16212, 4086.
        // Of two: 0 and 0, so that 1 finds his own alone; then 1 (and 17515 of one); 1; 0.
        HatNames hat = Checks.company("e0,p0");
        drawnOf(hat, 1, 1, 0, 1);
        drawnOf(hat, 2, 1, 0, 2);
        drawnOf(hat, 3, 1, 1, 4);
        drawnOf(hat, 4, 1, 2, 6);
        drawnOf(hat, 5, 1, 2, 7);
        // Of three: it goes well if 0 draws 2. 16838 tells 2; 17515 tells 1; 5627 tells 2; 16212 tells 0.
        hat = Checks.company("e0,p0,p0");
        hat.bar(1, 2);
        hat.bar(2, 0);
        drawnOf(hat, 1, 1, 1, 3);
        drawnOf(hat, 2, 1, 1, 5);
        drawnOf(hat, 3, 1, 2, 8);
        drawnOf(hat, 4, 1, 2, 9);
        // Of 1 and 2: 16838 tells 1, then of 0 and 2 5758 tells 0, and 2 is stuck; then 2, 0 and 1.
        hat = Checks.company("p0,p0,p0");
        drawnOf(hat, 1, 1, 0, 2);
        drawnOf(hat, 2, 1, 1, 5);
    }

    @Says(at = "section 3", words = "so many times those who have not drawn yet do, one after the other")
    static void drawnByThoseWhoHaveNot() {
        drawnOf(drawn("e0,e0,e0", NONE, 1), 60, 7, 60, 120);
        drawnOf(drawn("e0,e0,e0", 2, NONE, 1), 60, 7, 60, 60);
        drawnOf(drawn("p0,p0,p0", 2), 1, 1, 1, 2);
        drawnOf(Checks.company(SEVEN_EASY), 60, 981, 60, 420);
        // What is drawn already is not in the hat, and he who has it draws no more, whatever he may.
        HatNames hat = drawn("e0,e0,e0", 0);
        hat.bar(0, 0);
        drawnOf(hat, 60, 0, 60, 120);
    }

    @Says(at = "section 3", words = "till all have, or one MAY draw none")
    static void drawnTillOneMayNot() {
        drawnOf(Checks.company("k0,e0"), 60, 5, 0, 0);
        drawnOf(Checks.company("p0,k0"), 60, 5, 0, 60);
        drawnOf(Checks.company("p0,k0,e0"), 60, 5, 0, 60);
        drawnOf(drawn("p0,p0,p0", 1, 0), 60, 5, 0, 0);
        drawnOf(drawn("e0,e0", 1, 0), 60, 5, 60, 0);
    }

    @Says(at = "section 3", words = "DRAWN by a SEED, as they would be")
    static void drawnAsItWouldBe() {
        HatNames hat = drawn(MIXED, NONE, 2);
        long before = hat.digest();
        for (int what = 0; what <= 2; what++) {
            hat.drawn(60, 981, what);
            due("digest() behind it", hat.digest(), before);
        }
        due("drawn() twice the same", hat.drawn(60, 981, 2), hat.drawn(60, 981, 2));
    }

    @Says(at = "section 3", words = "1103515245 times it and 12345, its rest by 2 to the 31")
    static void nextSeed() {
        HatNames hat = drawn("p0,p0", 1);
        due("behind 0", hat.drawn(1, 0, 2), 12345);
        due("behind 1", hat.drawn(1, 1, 2), 1103527590);
        due("behind 2, wrapping", hat.drawn(1, 2, 2), 59559187);
        due("behind the greatest", hat.drawn(1, HIGH, 2), 1043980748);
        due("two behind 0", hat.drawn(2, 0, 2), 1406932606);
        for (int seed = 1; seed > 0 && seed < HIGH / 3; seed = 3 * seed + 1) {
            due("60 behind " + seed, hat.drawn(60, seed, 2), seedBehind(seed, 60));
        }
    }

    @Says(at = "section 3", words = "then that by 65536 (rounded down), its rest")
    static void drawOfASeed() {
        // He needs the last of seven, which is 6 of the rest by 7; the others may draw all but that.
        HatNames hat = Checks.company(SEVEN_EASY);
        for (int person = 1; person < 7; person++) {
            hat.bar(person, 6);
        }
        for (int seed : new int[] {0, 1, 2, 5, 11, 12, 13, 77, 981, 65535, 65536, HIGH - 1, HIGH}) {
            boolean well = seedBehind(seed, 1) / 65536 % 7 == 6;
            due("drawn(1, " + seed + ", 0)", hat.drawn(1, seed, 0), well ? 1 : 0);
        }
        int all = 0;
        for (int seed = 0; seed < 200; seed++) {
            int well = seedBehind(seed, 1) / 65536 % 7 == 6 ? 1 : 0;
            due("drawn(1, " + seed + ", 0)", hat.drawn(1, seed, 0), well);
            all += well;
        }
        due("some go well, some do not", all > 5 && all < 195 ? 1 : 0, 1);
    }

    @Says(at = "promise 19", words = "It is SEEN: how much is.")
    static void see() {
        HatNames hat = Checks.company("p0,p0");
        due("see(0, 1, true)", hat.see(0, 1, true), 1);
        due("see(0, 1, true) again", hat.see(0, 1, true), 2);
        due("see(0, 1, false)", hat.see(0, 1, false), 3);
        due("see(1, 1, false)", hat.see(1, 1, false), 4);
        due("count(6)", hat.count(6), 4);
        each(hat, 6, 0, 31 - 2);
    }

    @Says(at = "promise 19", words = "UNKNOWN: person, name")
    static void seeUnknown() {
        HatNames hat = Checks.company("p0,p0");
        for (int number : noneOf(2)) {
            due("see(" + number + ", 0, true)", hat.see(number, 0, true), UNKNOWN);
            due("see(0, " + number + ", false)", hat.see(0, number, false), UNKNOWN);
            due("see of " + number + " twice", hat.see(number, number, true), UNKNOWN);
        }
        due("count(6)", hat.count(6), 0);
        due("see(0, 0, true), no company", new HatNames().see(0, 0, true), UNKNOWN);
    }

    @Says(at = "promise 19", words = "FULL.")
    static void seeFull() {
        HatNames hat = Checks.company("p0,p0");
        for (int many = 1; many <= 6; many++) {
            due("see " + many, hat.see(0, 1, true), many);
        }
        due("see 7", hat.see(0, 1, true), FULL);
        due("see 7, another", hat.see(1, 0, false), FULL);
        due("unknown person ahead of full", hat.see(2, 0, true), UNKNOWN);
        due("unknown name ahead of full", hat.see(0, 2, true), UNKNOWN);
        each(hat, 6, 3, 31);
        hat.forget();
        due("see 1 again", hat.see(1, 0, false), 1);
    }

    @Says(at = "promise 20", words = "Nothing is SEEN any more: how much was.")
    static void forget() {
        HatNames hat = Checks.company("p0,p0");
        due("forget(), nothing was", hat.forget(), 0);
        hat.see(0, 0, true);
        due("forget(), one was", hat.forget(), 1);
        due("forget() again", hat.forget(), 0);
        for (int many = 1; many <= 6; many++) {
            hat.see(many % 2, 0, true);
        }
        due("forget(), six were", hat.forget(), 6);
        due("count(6)", hat.count(6), 0);
        each(hat, 6, 31, 31);
        due("forget(), no company", new HatNames().forget(), 0);
    }

    @Says(at = "promise 21", words = "what = 0 how often all have, 1 how many NAMES, 2 the SEED then.")
    static void drawnTold() {
        HatNames hat = Checks.company("p0,p0,p0");
        due("drawn(2, 1, 0)", hat.drawn(2, 1, 0), 1);
        due("drawn(2, 1, 1)", hat.drawn(2, 1, 1), 5);
        due("drawn(2, 1, 2)", hat.drawn(2, 1, 2), seedBehind(1, 5));
        hat = drawn("p0,p0", 1, 0);
        due("all have drawn", hat.drawn(60, 7, 0), 60);
        due("no names", hat.drawn(60, 7, 1), 0);
        due("the same seed", hat.drawn(60, 7, 2), 7);
        due("the same seed, the greatest", hat.drawn(60, HIGH, 2), HIGH);
    }

    @Says(at = "promise 21", words = "OUTSIDE: times (1 to 60)")
    static void timesOutside() {
        HatNames hat = Checks.company("e0,e0");
        for (int times : new int[] {LOW, -1, 0, 61, 62, HIGH}) {
            due("drawn(" + times + ", 0, 0)", hat.drawn(times, 0, 0), OUTSIDE);
            due("drawn(" + times + ", 0, 0), ahead of state", new HatNames().drawn(times, 0, 0), OUTSIDE);
        }
        for (int times = 1; times <= 60; times++) {
            due("drawn(" + times + ", 0, 0)", hat.drawn(times, 0, 0), times);
        }
    }

    @Says(at = "promise 21", words = "seed (0 at least)")
    static void seedOutside() {
        HatNames hat = Checks.company("e0,e0");
        for (int seed : new int[] {LOW, LOW + 1, -2, -1}) {
            due("drawn(1, " + seed + ", 0)", hat.drawn(1, seed, 0), OUTSIDE);
            due("drawn(1, " + seed + ", 0), ahead of state", new HatNames().drawn(1, seed, 0), OUTSIDE);
        }
        due("drawn(1, 0, 0)", hat.drawn(1, 0, 0), 1);
        due("drawn(1, 1, 0)", hat.drawn(1, 1, 0), 1);
        due("drawn(1, HIGH, 0)", hat.drawn(1, HIGH, 0), 1);
    }

    @Says(at = "promise 21", words = "what; STATE: no COMPANY.")
    static void whatOutside() {
        HatNames hat = Checks.company("e0,e0");
        for (int what : noneOf(3)) {
            due("drawn(1, 0, " + what + ")", hat.drawn(1, 0, what), OUTSIDE);
            due("drawn(1, 0, " + what + "), ahead of state", new HatNames().drawn(1, 0, what), OUTSIDE);
        }
        for (int what = 0; what <= 2; what++) {
            due("drawn(1, 0, " + what + "), no company", new HatNames().drawn(1, 0, what), STATE);
        }
    }
}
