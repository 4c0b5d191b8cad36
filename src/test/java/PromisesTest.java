/** One method a promise: ordinary inputs, the edges that the document names, wrong inputs. */
public final class PromisesTest {
    private static final int NONE = -1, UNKNOWN = -101, OUTSIDE = -102, STATE = -103, FULL = -104;
    private static final int LOW = Integer.MIN_VALUE, HIGH = Integer.MAX_VALUE;
    private static final String MIXED = "p1,k1,s4,e2,r3,p2";

    private static final Checks checks = new Checks();

    public static void main(String[] args) {
        constants();
        promise01New();
        promise02Letter();
        promise03Blank();
        promise04Fault();
        promise05Company();
        promise05CompanyAnew();
        promise06Person();
        promise06May();
        promise06Sure();
        promise06SortsAndAsk();
        promise06Rings();
        promise07As();
        promise08Take();
        promise08TakeFull();
        promise09Back();
        promise10Exchange();
        promise11All();
        promise12Bar();
        promise13Change();
        promise14Ways();
        promise15Way();
        promise16Hint();
        promise17Likely();
        promise18Rings();
        promise19See();
        promise20Forget();
        promise21Drawn();
        promise22Image();
        promise23Restore();
        promise24Count();
        promise25Digest();
        checks.end("PromisesTest");
    }

    private static void due(String call, long got, long want) {
        checks.due(call, got, want);
    }

    private static void constants() {
        due("NONE", HatNames.NONE, NONE);
        due("UNKNOWN", HatNames.UNKNOWN, UNKNOWN);
        due("OUTSIDE", HatNames.OUTSIDE, OUTSIDE);
        due("STATE", HatNames.STATE, STATE);
        due("FULL", HatNames.FULL, FULL);
    }

    private static void promise01New() {
        HatNames hat = new HatNames();
        for (int what = 0; what <= 9; what++) {
            due("1: count(" + what + ")", hat.count(what), 0);
        }
        due("1: fault", hat.fault(), 0);
        due("1: blank", hat.blank(), 0);
        due("1: company", hat.company(), STATE);
        due("1: person", hat.person(0, 0), UNKNOWN);
        due("1: as", hat.as(0, 0), UNKNOWN);
        due("1: take", hat.take(0, 0), UNKNOWN);
        due("1: back", hat.back(0), UNKNOWN);
        due("1: exchange", hat.exchange(0, 1), UNKNOWN);
        due("1: all", hat.all(), STATE);
        due("1: bar", hat.bar(0, 0), UNKNOWN);
        due("1: change", hat.change(0, 0, 0), UNKNOWN);
        due("1: ways", hat.ways(0), STATE);
        due("1: way", hat.way(0, 0), UNKNOWN);
        due("1: hint", hat.hint(), STATE);
        due("1: likely", hat.likely(), STATE);
        due("1: rings", hat.rings(0), STATE);
        due("1: see", hat.see(0, 0, true), UNKNOWN);
        due("1: forget", hat.forget(), 0);
        due("1: drawn", hat.drawn(1, 0, 0), STATE);
        due("1: image", hat.image(), STATE);
        due("1: restore", hat.restore(), STATE);
        long h = 1361;
        for (int what = 0; what <= 9; what++) {
            h *= 31;
        }
        due("1: digest", hat.digest(), h);
    }

    private static void promise02Letter() {
        HatNames hat = new HatNames();
        for (int code : new int[] {LOW, -1, 0, 127, 128, 112 + 65536, HIGH}) {
            due("2: letter(" + code + ")", hat.letter(code), OUTSIDE);
        }
        due("2: letter(1)", hat.letter(1), 1);
        due("2: letter(126)", hat.letter(126), 2);
        for (int many = 3; many <= 24; many++) {
            due("2: letter " + many, hat.letter('p'), many);
        }
        due("2: letter 25", hat.letter('p'), FULL);
        due("2: letter 25, and outside", hat.letter(0), OUTSIDE);
        due("2: count(7)", hat.count(7), 24);
    }

    private static void promise03Blank() {
        HatNames hat = new HatNames();
        Checks.type(hat, "p1,");
        due("3: blank", hat.blank(), 3);
        due("3: blank again", hat.blank(), 0);
        due("3: count(7)", hat.count(7), 0);
        due("3: letter", hat.letter('k'), 1);
        due("3: fault", hat.fault(), 1);
    }

    private static void faultOf(String text, int want) {
        HatNames hat = new HatNames();
        Checks.type(hat, text);
        due("4: fault of " + text, hat.fault(), want);
        due("4: letters of " + text, hat.count(7), text.length());
    }

    private static void promise04Fault() {
        faultOf("", 0);
        for (String kind : new String[] {"p", "e", "k", "s", "r"}) {
            faultOf(kind, 1);
            faultOf(kind + "0", 2);
            faultOf(kind + "9,", 3);
            faultOf("p0," + kind, 4);
        }
        for (String wrong : new String[] {"q", "P", "0", ",", " ", "\u0001", "~", "o", "t"}) {
            faultOf(wrong, 0);
            faultOf("p0," + wrong + "1", 3);
        }
        for (String wrong : new String[] {"/", ":", "p", ","}) {
            faultOf("k" + wrong, 1);
            faultOf("k1,e" + wrong + "x", 4);
        }
        faultOf("p1;", 2);
        faultOf("p11", 2);
        faultOf("p1,p2p", 5);
        faultOf("p1,,", 3);
        faultOf("p1,p2,p3,p4,p5,p6,p7", 20);
        faultOf("p1,p2,p3,p4,p5,p6,p7,", 20);
        faultOf("p1,p2,p3,p4,p5,p6,p7,p8", 20);
        faultOf("p1,p2,p3,p4,p5,p6,p7,p8,", 20);
        faultOf("p1,p2,p3,p4,p5,p6,px,p8", 19);
    }

    private static void promise05Company() {
        for (String none : new String[] {"", "p", "p1", "p1,", "p1,p", "p1,p2,", "p1,px", "x1,p2",
                "p1;p2", "p1,p2,p3,p4,p5,p6,p7,", "p1,p2,p3,p4,p5,p6,p7,p8"}) {
            HatNames hat = new HatNames();
            Checks.type(hat, none);
            due("5: company of " + none, hat.company(), STATE);
            due("5: letters of " + none, hat.count(7), none.length());
            due("5: persons of " + none, hat.count(0), 0);
            due("5: companies of " + none, hat.count(8), 0);
        }
        StringBuilder text = new StringBuilder("r9");
        for (int many = 2; many <= 7; many++) {
            text.append(",e").append(many);
            HatNames hat = new HatNames();
            Checks.type(hat, text.toString());
            due("5: company of " + text, hat.company(), many);
            due("5: letters left", hat.count(7), 0);
            due("5: persons", hat.count(0), many);
            due("5: companies", hat.count(8), 1);
            due("5: first kind", hat.person(0, 0), 4);
            due("5: first house", hat.person(0, 1), 9);
            due("5: last kind", hat.person(many - 1, 0), 1);
            due("5: last house", hat.person(many - 1, 1), many);
            due("5: nobody behind", hat.person(many, 0), UNKNOWN);
            due("5: nothing drawn", hat.count(1), 0);
            due("5: no company on the page", hat.company(), STATE);
        }
    }

    private static void promise05CompanyAnew() {
        HatNames hat = Checks.company("e0,e1,e2");
        hat.take(0, 1);
        hat.bar(1, 1);
        hat.see(2, 2, true);
        hat.hint();
        hat.image();
        Checks.type(hat, "e0,e1,x");
        due("5: refused", hat.company(), STATE);
        due("5: refused, so the old one stays", hat.person(0, 2), 1);
        due("5: refused, so the image stays", hat.restore(), 1);
        hat.blank();
        Checks.type(hat, "e0,e1,e2,k4");
        due("5: another", hat.company(), 4);
        due("5: another: kind", hat.person(3, 0), 2);
        int[] counts = {4, 0, 0, 0, 0, 0, 0, 0, 2, 1};
        for (int what = 0; what < counts.length; what++) {
            due("5: another: count(" + what + ")", hat.count(what), counts[what]);
        }
        due("5: another: no image", hat.restore(), STATE);
        Checks.type(hat, "p0,p0");
        due("5: fewer", hat.company(), 2);
        due("5: fewer: the rest is gone", hat.person(2, 0), UNKNOWN);
        due("5: fewer: name gone", hat.take(0, 2), UNKNOWN);
        due("5: fewer: ways", hat.ways(0), 1);
    }

    private static void promise06Person() {
        HatNames hat = Checks.company(MIXED);
        int[] kinds = {0, 2, 3, 1, 4, 0};
        int[] houses = {1, 1, 4, 2, 3, 2};
        for (int person = 0; person < 6; person++) {
            due("6: kind of " + person, hat.person(person, 0), kinds[person]);
            due("6: house of " + person, hat.person(person, 1), houses[person]);
            due("6: drawn of " + person, hat.person(person, 2), NONE);
            due("6: drawer of " + person, hat.person(person, 4), NONE);
            due("6: ring of " + person, hat.person(person, 8), 0);
        }
        hat.take(2, 5);
        due("6: drawn", hat.person(2, 2), 5);
        due("6: drawer", hat.person(5, 4), 2);
        due("6: no drawer", hat.person(2, 4), NONE);
        for (int person : new int[] {LOW, -1, 6, 7, HIGH}) {
            due("6: unknown " + person, hat.person(person, 0), UNKNOWN);
            due("6: unknown first " + person, hat.person(person, 9), UNKNOWN);
        }
        for (int what : new int[] {LOW, -1, 9, HIGH}) {
            due("6: outside " + what, hat.person(5, what), OUTSIDE);
        }
    }

    private static void mayDraw(String company, int... bits) {
        HatNames hat = Checks.company(company);
        for (int person = 0; person < bits.length; person++) {
            due("6: " + company + " may " + person, hat.person(person, 3), bits[person]);
        }
    }

    private static void promise06May() {
        mayDraw(MIXED, 62, 60, 49, 63, 3, 31);
        mayDraw("s0,s0,s0,s0", 12, 8, 1, 3);
        mayDraw("s0,p0,p5", 4);
        mayDraw("r9,p0,p8,r0,p1", 2 + 8 + 16, 29, 27, 1 + 4, 15);
        mayDraw("k5,k5,k4,r5,r6,r7", 4 + 16 + 32, 4 + 16 + 32, 59, 32, 4, 1 + 2 + 4 + 8);
        HatNames hat = Checks.company("p0,p0,e0");
        hat.take(1, 2);
        due("6: may, in the hat or not", hat.person(0, 3), 6);
        hat.bar(0, 2);
        due("6: may, but for what is barred", hat.person(0, 3), 2);
        hat.bar(2, 2);
        due("6: even an easy one", hat.person(2, 3), 3);
    }

    private static void promise06Sure() {
        HatNames hat = Checks.company("p0,p0");
        due("6: sure 0", hat.person(0, 5), 1);
        due("6: sure 1", hat.person(1, 5), 0);
        hat.bar(0, 1);
        due("6: no way, none sure 0", hat.person(0, 5), NONE);
        due("6: no way, none sure 1", hat.person(1, 5), NONE);
        hat.take(1, 0);
        due("6: no way, but drawn", hat.person(1, 5), 0);
        due("6: no way, and not drawn", hat.person(0, 5), NONE);

        hat = Checks.company("e0,e0,e0");
        due("6: many ways", hat.person(0, 5), NONE);
        hat.bar(0, 0);
        hat.bar(0, 1);
        due("6: in all ways", hat.person(0, 5), 2);
        due("6: not in all ways", hat.person(1, 5), NONE);
        due("6: nor for the last", hat.person(2, 5), NONE);
    }

    private static void promise06SortsAndAsk() {
        HatNames hat = Checks.company("p0,p3,p0,p4");
        due("6: sorts", hat.person(1, 6), 31);
        due("6: ask", hat.person(1, 7), 0);
        hat.see(1, 3, true);
        due("6: sorts, not proud", hat.person(1, 6), 15);
        due("6: ask then", hat.person(1, 7), 0);
        hat.bar(1, 0);
        hat.see(1, 0, true);
        due("6: sorts, not shy, barred or not", hat.person(1, 6), 7);
        due("6: ask his own", hat.person(1, 7), 1);
        hat.see(1, 1, false);
        due("6: sorts, not easy", hat.person(1, 6), 5);
        due("6: ask the least", hat.person(1, 7), 0);
        due("6: of another nothing is seen", hat.person(0, 6), 31);
        hat.see(1, 0, false);
        due("6: sorts, none", hat.person(1, 6), 0);
        due("6: ask, none", hat.person(1, 7), NONE);
        hat.forget();
        hat.see(1, 1, true);
        due("6: sorts, easy alone", hat.person(1, 6), 2);
        due("6: ask, when one is left", hat.person(1, 7), 0);

        hat = Checks.company("p5,p5,p6,p0");
        hat.see(3, 2, false);
        due("6: sorts, shy alone", hat.person(3, 6), 8);
        hat.see(0, 1, false);
        due("6: sorts by houses as they are", hat.person(0, 6), 28);
        due("6: ask 2", hat.person(0, 7), 2);
        hat.change(1, 0, 6);
        due("6: sorts after a change of house", hat.person(0, 6), 24);
        hat.change(0, 1, 5);
        due("6: sorts whatever his kind is", hat.person(0, 6), 24);
    }

    private static void promise06Rings() {
        HatNames hat = Checks.company("e0,e0,e0,e0");
        hat.take(0, 0);
        hat.take(1, 2);
        hat.take(2, 3);
        due("6: ring of one", hat.person(0, 8), 1);
        due("6: not yet a ring", hat.person(1, 8), 0);
        due("6: nor for the next", hat.person(2, 8), 0);
        hat.take(3, 1);
        for (int person = 1; person <= 3; person++) {
            due("6: ring of three, " + person, hat.person(person, 8), 3);
        }
    }

    private static void promise07As() {
        HatNames hat = Checks.company("p0,e0,k0,s0,r0");
        int[] isBits = {1, 1 + 2, 1 + 4, 1 + 8, 1 + 4 + 16};
        for (int person = 0; person < 5; person++) {
            for (int kind = 0; kind < 5; kind++) {
                int want = (isBits[person] >> kind & 1) == 1 ? person : NONE;
                due("7: as(" + person + ", " + kind + ")", hat.as(person, kind), want);
            }
        }
        due("7: unknown", hat.as(5, 0), UNKNOWN);
        due("7: unknown first", hat.as(-1, 5), UNKNOWN);
        due("7: outside", hat.as(0, 5), OUTSIDE);
        due("7: outside below", hat.as(0, -1), OUTSIDE);
        hat.change(0, 4, 0);
        due("7: as changed", hat.as(0, 2), 0);
    }

    private static void promise08Take() {
        HatNames hat = Checks.company("p0,p0,p0");
        due("8: take", hat.take(0, 1), 1);
        due("8: has drawn", hat.take(0, 2), STATE);
        due("8: not in the hat", hat.take(2, 1), STATE);
        due("8: may not", hat.take(1, 1), STATE);
        due("8: his own", hat.take(2, 2), STATE);
        for (int number : new int[] {LOW, -1, 3, HIGH}) {
            due("8: unknown person", hat.take(number, 0), UNKNOWN);
            due("8: unknown name", hat.take(1, number), UNKNOWN);
            due("8: unknown ahead of state", hat.take(0, number), UNKNOWN);
        }
        due("8: refusals change nothing", hat.count(5), 1);
        due("8: no way then", hat.take(1, 0), 0);
        due("8: drawn", hat.person(1, 2), 0);
        due("8: how often", hat.count(5), 2);
        hat.back(1);
        hat.bar(1, 2);
        due("8: barred", hat.take(1, 2), STATE);
        hat.bar(1, 2);
        due("8: barred no more", hat.take(1, 2), 1);
        due("8: all have drawn then", hat.take(2, 0), 1);
        due("8: how often in all", hat.count(5), 4);
    }

    /** Not reached within the 512 calls that are promised; the bound holds all the same. */
    private static void promise08TakeFull() {
        HatNames hat = Checks.company("p0,p0");
        for (int time = 0; time < 9998; time++) {
            hat.take(0, 1);
            hat.back(0);
        }
        due("8: the last", hat.take(0, 1), 1);
        due("8: state ahead of full", hat.take(0, 1), STATE);
        hat.back(0);
        due("8: full", hat.take(0, 1), FULL);
        due("8: unknown ahead of full", hat.take(0, 2), UNKNOWN);
        due("8: nothing drawn", hat.count(1), 0);
        due("8: 9999 times", hat.count(5), 9999);
    }

    private static void promise09Back() {
        HatNames hat = Checks.company("p0,p0,p0");
        due("9: none drawn", hat.back(0), STATE);
        hat.take(0, 2);
        due("9: back", hat.back(0), 2);
        due("9: back again", hat.back(0), STATE);
        due("9: in the hat", hat.person(2, 4), NONE);
        due("9: drawn no more", hat.person(0, 2), NONE);
        due("9: how often stays", hat.count(5), 1);
        due("9: taken by another", hat.take(1, 2), 1);
        for (int person : new int[] {LOW, -1, 3, HIGH}) {
            due("9: unknown", hat.back(person), UNKNOWN);
        }
    }

    private static void promise10Exchange() {
        HatNames hat = Checks.company("e0,e0,e0");
        hat.take(0, 0);
        due("10: other has none", hat.exchange(0, 1), STATE);
        due("10: one has none", hat.exchange(1, 0), STATE);
        due("10: the same", hat.exchange(0, 0), UNKNOWN);
        due("10: unknown other", hat.exchange(1, 3), UNKNOWN);
        due("10: unknown one", hat.exchange(-1, 1), UNKNOWN);
        hat.take(1, 1);
        due("10: exchange", hat.exchange(0, 1), 1);
        due("10: of one", hat.person(0, 2), 1);
        due("10: of other", hat.person(1, 2), 0);
        due("10: and back", hat.exchange(1, 0), 2);
        due("10: drawn twice only", hat.count(5), 2);
        hat.bar(0, 1);
        due("10: one may not", hat.exchange(0, 1), STATE);
        due("10: other may not", hat.exchange(1, 0), STATE);
        due("10: nothing changed", hat.person(0, 2), 0);
        hat.bar(0, 1);
        hat.bar(0, 0);
        due("10: what he has may be barred", hat.exchange(0, 1), 1);
    }

    private static void promise11All() {
        HatNames hat = Checks.company("e0,e0,e0");
        due("11: none had", hat.all(), 0);
        hat.take(2, 0);
        hat.take(0, 1);
        hat.bar(1, 1);
        due("11: two had", hat.all(), 2);
        due("11: none has", hat.count(1), 0);
        due("11: names in the hat", hat.person(0, 4), NONE);
        due("11: bars stay", hat.count(2), 1);
        due("11: how often stays", hat.count(5), 2);
        due("11: no company", new HatNames().all(), STATE);
    }

    private static void promise12Bar() {
        HatNames hat = Checks.company("p0,e0,k0");
        due("12: bar", hat.bar(0, 1), 1);
        due("12: another", hat.bar(0, 2), 0);
        due("12: his own besides", hat.bar(0, 0), 0);
        due("12: three are barred", hat.count(2), 3);
        due("12: no more", hat.bar(0, 1), 1);
        due("12: one who takes any", hat.bar(1, 1), 2);
        due("12: one who may draw none", hat.bar(2, 0), 0);
        due("12: four are barred", hat.count(2), 4);
        hat.take(0, 1);
        due("12: what is drawn is barred", hat.bar(0, 1), 0);
        due("12: what is drawn stays", hat.person(0, 2), 1);
        for (int number : new int[] {LOW, -1, 3, HIGH}) {
            due("12: unknown person", hat.bar(number, 0), UNKNOWN);
            due("12: unknown name", hat.bar(0, number), UNKNOWN);
        }
        due("12: five are barred", hat.count(2), 5);
    }

    private static void promise13Change() {
        HatNames hat = Checks.company("p0,e1,p9");
        hat.take(1, 1);
        due("13: change", hat.change(1, 2, 9), 1);
        due("13: kind", hat.person(1, 0), 2);
        due("13: house", hat.person(1, 1), 9);
        due("13: what is drawn stays", hat.person(1, 2), 1);
        due("13: though he may not", hat.count(3), 1);
        due("13: may by the new house", hat.person(1, 3), 1);
        due("13: to the same", hat.change(1, 2, 9), 2);
        due("13: back", hat.change(1, 4, 0), 2);
        for (int person : new int[] {LOW, -1, 3, HIGH}) {
            due("13: unknown", hat.change(person, 5, 10), UNKNOWN);
        }
        for (int kind : new int[] {LOW, -1, 5, HIGH}) {
            due("13: outside kind", hat.change(0, kind, 0), OUTSIDE);
        }
        for (int house : new int[] {LOW, -1, 10, HIGH}) {
            due("13: outside house", hat.change(0, 0, house), OUTSIDE);
        }
        due("13: refusals change nothing", hat.person(0, 0), 0);
    }

    private static void waysOf(String company, int ways, int round) {
        HatNames hat = Checks.company(company);
        due("14: ways of " + company, hat.ways(0), ways);
        due("14: round of " + company, hat.ways(1), round);
    }

    private static void promise14Ways() {
        waysOf("p0,p0", 1, 1);
        waysOf("p0,p0,p0,p0", 9, 6);
        waysOf("e0,e0,e0,e0", 24, 6);
        waysOf("e0,e0,e0,e0,e0,e0,e0", 5040, 720);
        waysOf("p0,p0,p0,p0,p0,p0,p0", 1854, 720);
        waysOf("k0,k0", 0, 0);
        waysOf("s0,s0,s0,s0", 1, 0);
        waysOf(MIXED, 72, 26);
        HatNames hat = Checks.company("e0,e0,e0");
        hat.take(0, 0);
        due("14: ways, one has drawn", hat.ways(0), 2);
        due("14: round, one has his own", hat.ways(1), 0);
        hat.all();
        hat.take(2, 0);
        due("14: round, one way", hat.ways(1), 1);
        hat.take(0, 1);
        hat.take(1, 2);
        due("14: all have drawn", hat.ways(0), 1);
        due("14: all in one ring", hat.ways(1), 1);
        hat.bar(0, 1);
        due("14: drawn, though barred", hat.ways(0), 1);
        due("14: in one ring, though barred", hat.ways(1), 1);
        hat.bar(0, 1);
        hat.exchange(0, 1);
        due("14: two rings", hat.ways(1), 0);
        for (int what : new int[] {LOW, -1, 2, HIGH}) {
            due("14: outside", hat.ways(what), OUTSIDE);
            due("14: outside ahead of state", new HatNames().ways(what), OUTSIDE);
        }
    }

    private static void promise15Way() {
        HatNames hat = Checks.company("p0,p0,p0,p0");
        int[][] ways = {{1, 0, 3, 2}, {1, 2, 3, 0}, {1, 3, 0, 2}, {2, 0, 3, 1}, {2, 3, 0, 1},
            {2, 3, 1, 0}, {3, 0, 1, 2}, {3, 2, 0, 1}, {3, 2, 1, 0}};
        for (int way = 0; way < ways.length; way++) {
            for (int person = 0; person < 4; person++) {
                due("15: way(" + way + ", " + person + ")", hat.way(way, person), ways[way][person]);
            }
        }
        for (int way : new int[] {LOW, -1, 9, HIGH}) {
            due("15: unknown way", hat.way(way, 0), UNKNOWN);
        }
        for (int person : new int[] {LOW, -1, 4, HIGH}) {
            due("15: unknown person", hat.way(0, person), UNKNOWN);
        }
        hat.take(1, 3);
        due("15: drawn 0", hat.way(0, 1), 3);
        due("15: drawn 1", hat.way(1, 1), 3);
        due("15: first of those left", hat.way(0, 0), 1);
        due("15: next of those left", hat.way(1, 0), 2);
        due("15: last of those left", hat.way(2, 3), 0);
        due("15: unknown then", hat.way(3, 1), UNKNOWN);
        hat = Checks.company("k0,k0");
        due("15: no way", hat.way(0, 0), UNKNOWN);
        hat = Checks.company("p0,p0");
        hat.take(0, 1);
        hat.take(1, 0);
        due("15: all have drawn", hat.way(0, 1), 0);
        due("15: one way then", hat.way(1, 1), UNKNOWN);
    }

    private static void promise16Hint() {
        due("16: just one", Checks.company("p0,p0").hint(), -2);
        due("16: no way", Checks.company("k0,k0").hint(), NONE);
        due("16: too many", Checks.company("e0,e0,e0").hint(), NONE);
        due("16: the first", Checks.company("e0,e0").hint(), 0);
        due("16: of three", Checks.company("p0,p0,p0").hint(), 1);
        HatNames hat = Checks.company("e0,e0,e0");
        hat.take(0, 0);
        due("16: of those who have not drawn", hat.hint(), 11);
        hat.take(1, 1);
        hat.take(2, 2);
        due("16: all have drawn", hat.hint(), -2);
        due("16: done", hat.count(9), 2);
        for (int time = 3; time <= 20; time++) {
            due("16: hint " + time, hat.hint(), -2);
        }
        due("16: hint 21", hat.hint(), STATE);
        due("16: 20 times", hat.count(9), 20);
        hat = new HatNames();
        due("16: no company", hat.hint(), STATE);
        due("16: not done", hat.count(9), 0);

        // The ways are 1 2 0, 2 0 1 and 2 1 0: the least bar that takes two of them is 2 for 0.
        hat = Checks.company("e0,e0,e0");
        hat.bar(0, 0);
        hat.bar(2, 2);
        due("16: three ways", hat.ways(0), 3);
        due("16: of three ways", hat.hint(), 2);
    }

    private static void promise17Likely() {
        HatNames hat = Checks.company("p0,p0,p0");
        due("17: three", hat.likely(), 750000);
        hat.take(0, 1);
        due("17: one has drawn", hat.likely(), 500000);
        hat.take(1, 2);
        hat.take(2, 0);
        due("17: all have drawn", hat.likely(), 1000000);
        due("17: none can", Checks.company("k0,k0").likely(), 0);
        due("17: any", Checks.company("e0,e0,e0,e0").likely(), 1000000);
        due("17: rounded down each time", Checks.company(MIXED).likely(), 629628);
        due("17: seven", Checks.company("p0,p0,p0,p0,p0,p0,p0").likely(), 899466);
        due("17: no company", new HatNames().likely(), STATE);
    }

    private static void promise18Rings() {
        HatNames hat = Checks.company("e0,e0,e0,e0,e0,e0");
        due("18: none", hat.rings(0), 0);
        due("18: no longest", hat.rings(1), 0);
        hat.take(5, 5);
        due("18: one of one", hat.rings(0), 1);
        due("18: longest of one", hat.rings(1), 1);
        hat.take(1, 3);
        hat.take(3, 4);
        due("18: a row is no ring", hat.rings(0), 1);
        hat.take(4, 1);
        hat.take(0, 2);
        due("18: two", hat.rings(0), 2);
        due("18: longest of three", hat.rings(1), 3);
        hat.take(2, 0);
        due("18: three", hat.rings(0), 3);
        due("18: longest stays", hat.rings(1), 3);
        for (int what : new int[] {LOW, -1, 2, HIGH}) {
            due("18: outside", hat.rings(what), OUTSIDE);
            due("18: outside ahead of state", new HatNames().rings(what), OUTSIDE);
        }
        due("18: no company", new HatNames().rings(1), STATE);
    }

    private static void promise19See() {
        HatNames hat = Checks.company("p0,p0");
        for (int number : new int[] {LOW, -1, 2, HIGH}) {
            due("19: unknown person", hat.see(number, 0, true), UNKNOWN);
            due("19: unknown name", hat.see(0, number, false), UNKNOWN);
        }
        for (int many = 1; many <= 6; many++) {
            due("19: see " + many, hat.see(0, 1, true), many);
        }
        due("19: full", hat.see(1, 1, true), FULL);
        due("19: unknown ahead of full", hat.see(2, 1, true), UNKNOWN);
        due("19: six", hat.count(6), 6);
        due("19: sorts", hat.person(0, 6), 3);
        due("19: of another", hat.person(1, 6), 31);
        hat.forget();
        hat.see(0, 1, false);
        due("19: may not", hat.person(0, 6), 28);
    }

    private static void promise20Forget() {
        HatNames hat = Checks.company("p0,p0");
        due("20: nothing was", hat.forget(), 0);
        hat.see(0, 0, true);
        hat.see(1, 0, true);
        due("20: two were", hat.forget(), 2);
        due("20: nothing is", hat.count(6), 0);
        due("20: sorts", hat.person(0, 6), 31);
        due("20: see anew", hat.see(1, 1, false), 1);
    }

    private static void promise21Drawn() {
        HatNames hat = Checks.company("e0,e0");
        due("21: both", hat.drawn(1, 0, 0), 1);
        due("21: two names", hat.drawn(1, 0, 1), 2);
        due("21: the seed behind two draws", hat.drawn(1, 0, 2), 1406932606);
        due("21: the greatest seed", hat.drawn(1, HIGH, 0), 1);
        due("21: nothing is drawn", hat.count(1), 0);
        due("21: nor counted", hat.count(5), 0);
        hat.take(0, 1);
        due("21: one left, one draw", hat.drawn(1, 0, 2), 12345);
        due("21: one name each", hat.drawn(60, 0, 1), 60);
        hat.take(1, 0);
        due("21: all have drawn", hat.drawn(60, 7, 0), 60);
        due("21: no names then", hat.drawn(60, 7, 1), 0);
        due("21: the same seed", hat.drawn(60, 7, 2), 7);
        hat = Checks.company("p0,k0");
        due("21: stuck", hat.drawn(9, 5, 0), 0);
        due("21: stuck behind one name each", hat.drawn(9, 5, 1), 9);
        // From seed 1 the draws are 16838, 5758, 10113, 17515, 31051 (each by how many may be drawn):
        // 0 draws 1 and 1 draws 0, so that 2 is stuck; then 0 draws 2, 1 draws 0, 2 draws 1.
        hat = Checks.company("p0,p0,p0");
        due("21: the first time stuck", hat.drawn(1, 1, 0), 0);
        due("21: behind two names", hat.drawn(1, 1, 1), 2);
        due("21: the second time not", hat.drawn(2, 1, 0), 1);
        due("21: three names more", hat.drawn(2, 1, 1), 5);
        hat.take(0, 2);
        due("21: what is drawn is not in the hat", hat.drawn(1, 1, 0), 1);
        due("21: two who have not drawn", hat.drawn(1, 1, 1), 2);
        for (int times : new int[] {LOW, -1, 0, 61, HIGH}) {
            due("21: outside times", hat.drawn(times, 0, 0), OUTSIDE);
        }
        for (int seed : new int[] {LOW, -1}) {
            due("21: outside seed", hat.drawn(1, seed, 0), OUTSIDE);
        }
        for (int what : new int[] {LOW, -1, 3, HIGH}) {
            due("21: outside what", hat.drawn(1, 0, what), OUTSIDE);
            due("21: outside ahead of state", new HatNames().drawn(1, 0, what), OUTSIDE);
        }
        due("21: no company", new HatNames().drawn(1, 0, 2), STATE);
    }

    private static void promise22Image() {
        HatNames hat = Checks.company("e0,e0");
        due("22: image", hat.image(), 0);
        hat.take(0, 0);
        due("22: nothing is changed by it", hat.image(), 1);
        hat.back(0);
        due("22: the latest", hat.restore(), 1);
        due("22: the latest, drawn", hat.person(0, 2), 0);
        due("22: no company", new HatNames().image(), STATE);
    }

    private static void promise23Restore() {
        HatNames hat = Checks.company("e0,e1,e2");
        due("23: none kept", hat.restore(), STATE);
        hat.take(0, 2);
        hat.bar(1, 1);
        hat.see(2, 1, false);
        hat.image();
        hat.change(2, 4, 7);
        hat.take(1, 0);
        hat.bar(2, 2);
        hat.bar(1, 1);
        hat.forget();
        hat.see(0, 0, true);
        hat.see(1, 1, true);
        hat.hint();
        hat.letter('p');
        due("23: restore", hat.restore(), 1);
        restored(hat);
        hat.all();
        due("23: restore again", hat.restore(), 1);
        restored(hat);
        Checks.type(hat, "0,p0");
        hat.company();
        due("23: another company", hat.restore(), STATE);
        hat.image();
        due("23: an image of that", hat.restore(), 0);
    }

    private static void restored(HatNames hat) {
        due("23: kind", hat.person(2, 0), 1);
        due("23: house", hat.person(2, 1), 2);
        due("23: drawn", hat.person(0, 2), 2);
        due("23: not drawn", hat.person(1, 2), NONE);
        due("23: barred", hat.person(1, 3), 5);
        due("23: bars", hat.count(2), 1);
        due("23: seen", hat.count(6), 1);
        due("23: seen of 2", hat.person(2, 6), 8 + 16);
        due("23: seen of 0", hat.person(0, 6), 31);
        due("23: how often", hat.count(5), 1);
        due("23: hints go on", hat.count(9), 1);
        due("23: the page goes on", hat.count(7), 1);
        due("23: companies go on", hat.count(8), 1);
    }

    private static void promise24Count() {
        HatNames hat = Checks.company("e0,e0,e0,e0");
        hat.take(0, 1);
        hat.take(1, 0);
        hat.bar(0, 1);
        hat.bar(2, 2);
        hat.bar(3, 0);
        hat.see(0, 0, true);
        hat.hint();
        hat.hint();
        hat.letter('x');
        int[] counts = {4, 2, 3, 1, 4, 2, 1, 1, 1, 2};
        for (int what = 0; what < counts.length; what++) {
            due("24: count(" + what + ")", hat.count(what), counts[what]);
        }
        hat.bar(2, 2);
        due("24: two are sure", hat.count(4), 2);
        for (int what : new int[] {LOW, -1, 10, HIGH}) {
            due("24: outside", hat.count(what), OUTSIDE);
        }
    }

    private static long digestOf(HatNames hat, String page) {
        long h = 1361;
        int size = hat.count(0);
        for (int person = 0; person < size; person++) {
            for (int what = 0; what <= 8; what++) {
                h = 31 * h + hat.person(person, what);
            }
        }
        if (size > 0) {
            h = 31 * h + hat.ways(0);
            h = 31 * h + hat.ways(1);
            h = 31 * h + hat.likely();
            h = 31 * h + hat.rings(0);
            h = 31 * h + hat.rings(1);
        }
        for (int place = 0; place < page.length(); place++) {
            h = 31 * h + page.charAt(place);
        }
        for (int what = 0; what <= 9; what++) {
            h = 31 * h + hat.count(what);
        }
        return h;
    }

    private static void promise25Digest() {
        HatNames hat = new HatNames();
        Checks.type(hat, "k1");
        due("25: no company", hat.digest(), digestOf(hat, "k1"));
        Checks.type(hat, ",p2,e3");
        hat.company();
        due("25: a company", hat.digest(), digestOf(hat, ""));
        hat.take(0, 1);
        hat.bar(2, 2);
        hat.see(1, 2, true);
        hat.hint();
        Checks.type(hat, "~x");
        due("25: with all", hat.digest(), digestOf(hat, "~x"));
        due("25: twice the same", hat.digest(), digestOf(hat, "~x"));

        // Each number by hand, so that the order does not hang on the program's own answers.
        hat = Checks.company("p0,p0");
        int[] numbers = {0, 0, -1, 2, -1, 1, 31, 1, 0, 0, 0, -1, 1, -1, 0, 31, 0, 0,
            1, 1, 1000000, 0, 0, 7, 2, 0, 0, 0, 2, 0, 0, 1, 1, 0};
        hat.letter(7);
        long h = 1361;
        for (int number : numbers) {
            h = 31 * h + number;
        }
        due("25: by hand", hat.digest(), h);
    }
}
