/** The company: section 1, the terms, promises 1 to 7. */
public final class CompanySentencesTest extends Sentences {
    private static final String SEVEN = "p1,p2,p3,p4,p5,p6,p7";
    private static final String KINDS = "peksr";

    public static void main(String[] args) throws IllegalAccessException {
        run(CompanySentencesTest.class, 1, 7);
    }

    @Says(at = "the public face", words = "NONE = -1, UNKNOWN = -101, OUTSIDE = -102, STATE = -103, FULL = -104")
    static void constants() {
        due("NONE", HatNames.NONE, -1);
        due("UNKNOWN", HatNames.UNKNOWN, -101);
        due("OUTSIDE", HatNames.OUTSIDE, -102);
        due("STATE", HatNames.STATE, -103);
        due("FULL", HatNames.FULL, -104);
    }

    private static void read(String text, int company, int fault) {
        HatNames hat = Checks.typed(text);
        due("fault() of " + text, hat.fault(), fault);
        due("company() of " + text, hat.company(), company);
        due("count(0) of " + text, hat.count(0), Math.max(0, company));
    }

    @Says(at = "section 1", words = "two to seven PERSONS")
    static void twoToSeven() {
        read("p1", STATE, 2);
        for (int many = 2; many <= 7; many++) {
            read(SEVEN.substring(0, 3 * many - 1), many, 3 * many - 1);
        }
        read(SEVEN + ",p8", STATE, 20);
    }

    @Says(at = "section 1", words = "(numbered from 0)")
    static void numberedFromNought() {
        HatNames hat = Checks.company("p3,e4");
        each(hat, 1, 3, 4, UNKNOWN);
        due("person(-1, 1)", hat.person(-1, 1), UNKNOWN);
        hat = Checks.company(SEVEN);
        each(hat, 1, 1, 2, 3, 4, 5, 6, 7, UNKNOWN);
    }

    @Says(at = "section 1", words = "with \",\" between")
    static void commaBetween() {
        read(",p1,p2", STATE, 0);
        read("p1,p2,", STATE, 6);
        read("p1,,p2", STATE, 3);
        read("p1p2", STATE, 2);
        read("p1,p2p3", STATE, 5);
        for (int code = 1; code <= 126; code++) {
            boolean comma = code == ',';
            read("p1" + (char) code + "p2", comma ? 2 : STATE, comma ? 5 : 2);
            read("p1,p2,p3,p4,p5,p6" + (char) code + "p7", comma ? 7 : STATE, comma ? 20 : 17);
        }
    }

    @Says(at = "section 1", words = "each a letter, the KIND")
    static void aLetterEach() {
        for (int code = 1; code <= 126; code++) {
            boolean kind = KINDS.indexOf(code) >= 0;
            read((char) code + "1,p2", kind ? 2 : STATE, kind ? 5 : 0);
            read("p1," + (char) code + "2", kind ? 2 : STATE, kind ? 5 : 3);
            read("p1,p2,p3,p4,p5,p6," + (char) code + "7", kind ? 7 : STATE, kind ? 20 : 18);
        }
    }

    @Says(at = "section 1", words = "and a digit, the HOUSE")
    static void aDigitEach() {
        for (int code = 1; code <= 126; code++) {
            boolean digit = code >= 48 && code <= 57;
            read("p" + (char) code + ",p2", digit ? 2 : STATE, digit ? 5 : 1);
            read("p1,p" + (char) code, digit ? 2 : STATE, digit ? 5 : 4);
            read("p1,p2,p3,p4,p5,p6,p" + (char) code, digit ? 7 : STATE, digit ? 20 : 19);
        }
        each(Checks.company("p0,p1,p2,p3,p4"), 1, 0, 1, 2, 3, 4);
        each(Checks.company("p9,p8,p7,p6,p5"), 1, 9, 8, 7, 6, 5);
        read("p11,p2", STATE, 2);
        read("p,p2", STATE, 1);
    }

    @Says(at = "terms", words = "At first there is none; then nobody has drawn, nothing is BARRED")
    static void atFirst() {
        due("count(0)", new HatNames().count(0), 0);
        HatNames hat = Checks.company("e0,e1,e2");
        due("count(1)", hat.count(1), 0);
        due("count(2)", hat.count(2), 0);
        each(hat, 2, NONE, NONE, NONE);
        each(hat, 3, 7, 7, 7);
        each(hat, 4, NONE, NONE, NONE);
    }

    @Says(at = "terms", words = "They sit in a row by their numbers")
    static void inARow() {
        // A row is no circle: the first one and the last one do not sit side by side.
        each(Checks.company("s0,s0,s0,s0"), 3, 4 + 8, 8, 1, 1 + 2);
        each(Checks.company("s0,s0,s0,s0,s0,s0,s0"), 3,
                127 - 3, 127 - 7, 127 - 14, 127 - 28, 127 - 56, 127 - 112, 127 - 96);
    }

    @Says(at = "terms", words = "KINDS are told by the letter")
    static void kindsByLetter() {
        each(Checks.company("p0,e0,k0,s0,r0"), 0, 0, 1, 2, 3, 4);
    }

    @Says(at = "terms", words = "All are PERSONS; a PROUD one is KIN, too")
    static void allArePersons() {
        HatNames hat = Checks.company("p0,e0,k0,s0,r0");
        int[] kinds = {1, 1 + 2, 1 + 4, 1 + 8, 1 + 4 + 16};
        for (int person = 0; person < 5; person++) {
            for (int kind = 0; kind < 5; kind++) {
                int want = (kinds[person] >> kind & 1) == 1 ? person : NONE;
                due("as(" + person + ", " + kind + ")", hat.as(person, kind), want);
            }
        }
    }

    @Says(at = "terms", words = "A plain PERSON MAY draw any NAME but his own")
    static void plain() {
        each(Checks.company("p0,p0"), 3, 2, 1);
        each(Checks.company("p0,p1,p0,p9,p0,p0,p0"), 3, 126, 125, 123, 119, 111, 95, 63);
    }

    @Says(at = "terms", words = "an EASY one any")
    static void easy() {
        each(Checks.company("e0,e0"), 3, 3, 3);
        each(Checks.company(SEVEN_EASY), 3, 127, 127, 127, 127, 127, 127, 127);
    }

    @Says(at = "terms", words = "a KIN none of his own HOUSE (nor his own NAME)")
    static void kin() {
        each(Checks.company("k0,k0"), 3, 0, 0);
        each(Checks.company("k0,k1"), 3, 2, 1);
        each(Checks.company("k5,p5,k4,k6,k5"), 3, 4 + 8, 1 + 4 + 8 + 16, 27, 23, 4 + 8);
        each(Checks.company("k0,k9,k0"), 3, 2, 5, 2);
    }

    @Says(at = "terms", words = "a SHY one not his own, nor those of PERSONS who sit next to him")
    static void shy() {
        each(Checks.company("s0,s0"), 3, 0, 0);
        each(Checks.company("s0,s1,s2"), 3, 4, 0, 1);
        each(Checks.company("p1,s1,p1,p1,s1"), 3, 30, 8 + 16, 27, 23, 1 + 2 + 4);
    }

    @Says(at = "terms", words = "a PROUD one what a KIN may, but none of a HOUSE whose digit is one more"
            + " or one less than that of his")
    static void proud() {
        each(Checks.company("r5,p5,p4,p6,p3,p7"), 3, 16 + 32);
        each(Checks.company("r5,r5"), 3, 0, 0);
        each(Checks.company("r0,r2"), 3, 2, 1);
        // The digits are no circle: 9 and 0 lie far apart.
        each(Checks.company("r9,p0,p8,r0,p1"), 3, 2 + 8 + 16, 29, 27, 1 + 4, 15);
    }

    @Says(at = "terms", words = "What is BARRED for a PERSON he may not draw either")
    static void barred() {
        HatNames hat = Checks.company("e0,p0,k1");
        hat.bar(0, 0);
        hat.bar(0, 2);
        hat.bar(1, 2);
        hat.bar(2, 1);
        each(hat, 3, 2, 1, 1);
        due("take(0, 0)", hat.take(0, 0), STATE);
        due("take(1, 2)", hat.take(1, 2), STATE);
        due("another may", hat.take(2, 0), 0);
    }

    @Says(at = "terms", words = "A NAME that nobody has drawn is in the HAT")
    static void inTheHat() {
        HatNames hat = Checks.company("e0,e0,e0");
        due("take(0, 2)", hat.take(0, 2), 2);
        due("take(1, 2), drawn", hat.take(1, 2), STATE);
        due("take(2, 2), drawn, though his own", hat.take(2, 2), STATE);
        hat.back(0);
        due("take(1, 2), put back", hat.take(1, 2), 2);
        due("take(0, 2), drawn by another", hat.take(0, 2), STATE);
        hat.all();
        due("take(0, 2), all put back", hat.take(0, 2), 2);
    }

    @Says(at = "terms", words = "a RING is such PERSONS as come round (one who gives to himself is one)")
    static void comeRound() {
        each(drawn("e0,e0,e0", 0), 8, 1, 0, 0);
        each(drawn("e0,e0,e0", 1, 0, 2), 8, 2, 2, 1);
        each(drawn("e0,e0,e0", 1, 2), 8, 0, 0, 0);
        each(drawn("e0,e0,e0", 1, 2, 0), 8, 3, 3, 3);
        each(drawn(SEVEN_EASY, 1, 2, 3, 4, 5, 6, 0), 8, 7, 7, 7, 7, 7, 7, 7);
        each(drawn(SEVEN_EASY, 1, 2, 3, 4, 5, 6), 8, 0, 0, 0, 0, 0, 0, 0);
        each(drawn(SEVEN_EASY, 6, 1, 4, 5, 3, 2, 0), 8, 2, 1, 4, 4, 4, 4, 2);
    }

    @Says(at = "promise 1", words = "No COMPANY.")
    static void noCompany() {
        HatNames hat = new HatNames();
        for (int what = 0; what <= 9; what++) {
            due("count(" + what + ")", hat.count(what), 0);
        }
        due("fault()", hat.fault(), 0);
        due("blank()", hat.blank(), 0);
        due("forget()", hat.forget(), 0);
        due("company()", hat.company(), STATE);
        due("person(0, 0)", hat.person(0, 0), UNKNOWN);
        due("ways(0)", hat.ways(0), STATE);
        due("restore()", hat.restore(), STATE);
        due("letter(1)", hat.letter(1), 1);
    }

    @Says(at = "promise 1", words = "No COMPANY.")
    static void oneObjectIsNotAnother() {
        HatNames one = Checks.company("e0,e1,e2");
        one.take(0, 0);
        one.bar(1, 1);
        one.hint();
        one.image();
        one.letter('p');
        HatNames other = new HatNames();
        for (int what = 0; what <= 9; what++) {
            due("count(" + what + ") of another", other.count(what), 0);
        }
        due("restore() of another", other.restore(), STATE);
        Checks.type(other, "p0,p0");
        other.company();
        due("count(0) of the one", one.count(0), 3);
        due("person(0, 2) of the one", one.person(0, 2), 0);
    }

    @Says(at = "what it is", words = "An object is used for at most 512 calls after it has been made")
    static void fiveHundredAndTwelveCalls() {
        HatNames hat = new HatNames();
        for (int call = 1; call <= 24; call++) {
            due("call " + call, hat.letter('p'), call);
        }
        due("call 25", hat.blank(), 24);
        Checks.type(hat, "e0,e0");
        due("call 31", hat.company(), 2);
        for (int call = 32; call <= 511; call += 2) {
            due("call " + call, hat.take(1, 0), 1);
            due("call " + (call + 1), hat.back(1), 0);
        }
        due("call 512", hat.count(5), 240);
    }

    @Says(at = "promise 2", words = "A letter comes behind THE PAGE, by its code: how many THE PAGE has")
    static void letterBehind() {
        HatNames hat = new HatNames();
        due("letter('p')", hat.letter('p'), 1);
        due("letter('1')", hat.letter('1'), 2);
        due("letter(',')", hat.letter(','), 3);
        due("letter('k')", hat.letter('k'), 4);
        due("letter('9')", hat.letter('9'), 5);
        due("company()", hat.company(), 2);
        each(hat, 0, 0, 2);
        each(hat, 1, 1, 9);
    }

    @Says(at = "promise 2", words = "OUTSIDE: code (1 to 126)")
    static void letterOutside() {
        HatNames hat = new HatNames();
        for (int code : new int[] {LOW, -112, -1, 0, 127, 128, 256 + 'p', 65536 + 'p', HIGH}) {
            due("letter(" + code + ")", hat.letter(code), OUTSIDE);
        }
        due("count(7)", hat.count(7), 0);
        due("letter(1)", hat.letter(1), 1);
        due("letter(126)", hat.letter(126), 2);
        for (int code = 1; code <= 126; code++) {
            due("letter(" + code + ")", new HatNames().letter(code), 1);
        }
    }

    @Says(at = "promise 2", words = "FULL: above 24")
    static void letterFull() {
        HatNames hat = new HatNames();
        for (int many = 1; many <= 24; many++) {
            due("letter " + many, hat.letter('p'), many);
        }
        due("letter 25", hat.letter('p'), FULL);
        due("letter 25, outside too", hat.letter(0), OUTSIDE);
        due("letter 25, outside too", hat.letter(127), OUTSIDE);
        due("count(7)", hat.count(7), 24);
        hat.blank();
        due("letter 1 again", hat.letter('p'), 1);
    }

    @Says(at = "promise 3", words = "THE PAGE is empty: how many letters it had.")
    static void blankEmpties() {
        HatNames hat = new HatNames();
        due("blank(), empty", hat.blank(), 0);
        hat.letter('x');
        due("blank(), one", hat.blank(), 1);
        due("count(7)", hat.count(7), 0);
        due("fault()", hat.fault(), 0);
        Checks.type(hat, "p1,p2,p3,p4,p5,p6,p7,p8,");
        due("blank(), full", hat.blank(), 24);
        due("blank() again", hat.blank(), 0);
        due("letter behind it", hat.letter('k'), 1);
        due("fault() behind it", hat.fault(), 1);
        hat = Checks.company("p0,p0");
        hat.take(0, 1);
        hat.letter('p');
        hat.blank();
        due("the company stays", hat.person(0, 2), 1);
    }

    private static void faultOf(String text, int want) {
        HatNames hat = Checks.typed(text);
        due("fault() of " + text, hat.fault(), want);
        due("fault() again", hat.fault(), want);
        due("count(7)", hat.count(7), text.length());
    }

    @Says(at = "promise 4", words = "The place (from 0) of the first letter of THE PAGE that no COMPANY has"
            + " there, behind those ahead of it")
    static void faultPlace() {
        faultOf("x", 0);
        faultOf("1p", 0);
        faultOf(",", 0);
        faultOf("P1", 0);
        faultOf("pp", 1);
        faultOf("p,", 1);
        faultOf("p1p", 2);
        faultOf("p12", 2);
        faultOf("p1,x2,x", 3);
        faultOf("p1,2p", 3);
        faultOf("p1,pp,x", 4);
        faultOf("p1,p2;x", 5);
        faultOf("p1,p2,p3,p4,p5,p6,p7,", 20);
        faultOf("p1,p2,p3,p4,p5,p6,p7p", 20);
        faultOf("p1,p2,p3,p4,p5,p6,p7,p8,", 20);
        faultOf("p1,p2,p3,p4,p5,p6,px,p8", 19);
    }

    @Says(at = "promise 4", words = "how many letters it has, if there is none")
    static void faultNone() {
        faultOf("", 0);
        for (int many = 1; many <= SEVEN.length(); many++) {
            faultOf(SEVEN.substring(0, many), many);
        }
    }

    @Says(at = "promise 5", words = "THE PAGE is read as THE COMPANY")
    static void companyRead() {
        HatNames hat = Checks.typed("r9,e0");
        due("company(), two", hat.company(), 2);
        each(hat, 0, 4, 1, UNKNOWN);
        each(hat, 1, 9, 0, UNKNOWN);
        hat = Checks.typed("p0,e1,k2,s3,r4,p8,e9");
        due("company(), seven", hat.company(), 7);
        each(hat, 0, 0, 1, 2, 3, 4, 0, 1, UNKNOWN);
        each(hat, 1, 0, 1, 2, 3, 4, 8, 9, UNKNOWN);
        due("count(8)", hat.count(8), 1);
    }

    /** A company with something of all that can be, and an image of it. */
    private static HatNames busy(String company) {
        HatNames hat = Checks.company(company);
        hat.take(0, 1);
        hat.take(1, 0);
        hat.bar(1, 1);
        hat.bar(0, 0);
        hat.see(0, 0, true);
        hat.see(1, 0, false);
        hat.image();
        return hat;
    }

    @Says(at = "promise 5", words = "(another one is gone, with all that was)")
    static void anotherCompany() {
        HatNames hat = busy("e0,e1,e2");
        hat.hint();
        Checks.type(hat, "k3,e4,s5,r6");
        due("company(), four", hat.company(), 4);
        // Only how often a company was read and how often hint() was done go on: see NOTES.md.
        // Sure are the last two: the shy one may draw 0 alone, so the proud one must draw 1.
        int[] counts = {4, 0, 0, 0, 2, 0, 0, 0, 2, 1};
        for (int what = 0; what < counts.length; what++) {
            due("count(" + what + ")", hat.count(what), counts[what]);
        }
        each(hat, 0, 2, 1, 3, 4);
        each(hat, 1, 3, 4, 5, 6);
        each(hat, 2, NONE, NONE, NONE, NONE);
        each(hat, 3, 14, 15, 1, 3);
        each(hat, 6, 31, 31, 31, 31);
        due("restore()", hat.restore(), STATE);
    }

    @Says(at = "promise 5", words = "(another one is gone, with all that was)")
    static void fewerThanBefore() {
        HatNames hat = busy(SEVEN_EASY);
        hat.take(5, 6);
        hat.bar(6, 6);
        Checks.type(hat, "p0,p0");
        due("company(), two", hat.company(), 2);
        due("person(2, 0)", hat.person(2, 0), UNKNOWN);
        due("take(0, 2)", hat.take(0, 2), UNKNOWN);
        due("ways(0)", hat.ways(0), 1);
        due("count(2)", hat.count(2), 0);
        Checks.type(hat, SEVEN_EASY);
        due("company(), seven again", hat.company(), 7);
        due("count(1)", hat.count(1), 0);
        due("count(2)", hat.count(2), 0);
        due("ways(0)", hat.ways(0), 5040);
        due("count(8)", hat.count(8), 3);
    }

    @Says(at = "promise 5", words = "(another one is gone, with all that was)")
    static void theSameTextAgain() {
        HatNames hat = busy("e0,e0");
        Checks.type(hat, "e0,e0");
        due("company()", hat.company(), 2);
        due("count(1)", hat.count(1), 0);
        due("count(5)", hat.count(5), 0);
        due("restore()", hat.restore(), STATE);
    }

    @Says(at = "promise 5", words = "THE PAGE is empty then")
    static void pageEmptyThen() {
        HatNames hat = Checks.typed(SEVEN);
        hat.company();
        due("count(7)", hat.count(7), 0);
        due("blank()", hat.blank(), 0);
        due("company() of an empty page", hat.company(), STATE);
        due("letter", hat.letter('p'), 1);
    }

    @Says(at = "promise 5", words = "STATE: it is none.")
    static void noCompanyOnThePage() {
        for (String text : new String[] {"", "p", "p1", "p1,", "p1,p", "p1,p2,", "p1,p2,p", "p1,px", "x1,p2",
                "p1;p2", "p1,p2 ", SEVEN + ",", SEVEN + ",p", SEVEN + ",p8", SEVEN + ",p8,"}) {
            HatNames hat = Checks.typed(text);
            due("company() of " + text, hat.company(), STATE);
            due("count(7) of " + text, hat.count(7), text.length());
            due("count(0) of " + text, hat.count(0), 0);
            due("count(8) of " + text, hat.count(8), 0);
        }
        HatNames hat = busy("e0,e1");
        Checks.type(hat, "p1,p2,");
        due("company() with another", hat.company(), STATE);
        due("it stays", hat.person(0, 2), 1);
        due("its image stays", hat.restore(), 2);
        Checks.type(hat, "p3");
        due("company() of the page that stayed", hat.company(), 3);
    }

    @Says(at = "promise 6", words = "what = 0 KIND, 1 HOUSE")
    static void personKindAndHouse() {
        HatNames hat = Checks.company(MIXED);
        each(hat, 0, 0, 2, 3, 1, 4, 0);
        each(hat, 1, 1, 1, 4, 2, 3, 2);
    }

    @Says(at = "promise 6", words = "2 the NAME he has drawn (NONE)")
    static void personDrawn() {
        HatNames hat = drawn("e0,e0,e0", 2, NONE, 0);
        each(hat, 2, 2, NONE, 0);
        hat.back(2);
        each(hat, 2, 2, NONE, NONE);
    }

    @Says(at = "promise 6", words = "3 which NAMES he MAY draw (in the HAT or not), as bits")
    static void personMay() {
        each(Checks.company(MIXED), 3, 62, 60, 49, 63, 3, 31);
        HatNames hat = drawn("p0,p0,p0", 1, 2, 0);
        each(hat, 3, 6, 5, 3);
        hat.bar(0, 1);
        each(hat, 3, 4, 5, 3);
        hat.bar(0, 2);
        each(hat, 3, 0, 5, 3);
    }

    @Says(at = "promise 6", words = "4 who has drawn his (NONE)")
    static void personDrawer() {
        HatNames hat = drawn("e0,e0,e0", 2, NONE, 0);
        each(hat, 4, 2, NONE, 0);
        hat.all();
        each(hat, 4, NONE, NONE, NONE);
        each(drawn("e0,e0", 0, 1), 4, 0, 1);
    }

    @Says(at = "promise 6", words = "5 SURE (NONE)")
    static void personSure() {
        each(Checks.company("p0,p0"), 5, 1, 0);
        each(Checks.company("e0,e0"), 5, NONE, NONE);
        each(drawn("e0,e0,e0", 2), 5, 2, NONE, NONE);
    }

    @Says(at = "promise 6", words = "6 SORTS, as bits")
    static void personSorts() {
        HatNames hat = Checks.company("p0,p0");
        each(hat, 6, 31, 31);
        hat.see(0, 0, true);
        each(hat, 6, 2, 31);
        hat.see(0, 0, false);
        each(hat, 6, 0, 31);
    }

    @Says(at = "promise 6", words = "7 ASK (NONE)")
    static void personAsk() {
        HatNames hat = Checks.company("p0,p5,p0");
        each(hat, 7, 2, 0, 0);
        hat.see(1, 1, true);
        hat.see(1, 1, false);
        each(hat, 7, 2, NONE, 0);
    }

    @Says(at = "promise 6", words = "8 how many are in his RING (0: he is in none)")
    static void personRing() {
        each(Checks.company("e0,e0"), 8, 0, 0);
        each(drawn("e0,e0", 1), 8, 0, 0);
        each(drawn("e0,e0", NONE, 1), 8, 0, 1);
        each(drawn("e0,e0", 1, 0), 8, 2, 2);
        each(drawn(SEVEN_EASY, 0, 2, 3, 1, 5), 8, 1, 3, 3, 3, 0, 0, 0);
    }

    @Says(at = "promise 6", words = "UNKNOWN; OUTSIDE.")
    static void personRefused() {
        HatNames hat = Checks.company(MIXED);
        for (int person : noneOf(6)) {
            for (int what = -1; what <= 9; what++) {
                due("person(" + person + ", " + what + ")", hat.person(person, what), UNKNOWN);
            }
        }
        for (int what : noneOf(9)) {
            due("person(0, " + what + ")", hat.person(0, what), OUTSIDE);
            due("person(5, " + what + ")", hat.person(5, what), OUTSIDE);
        }
    }

    @Says(at = "promise 7", words = "A PERSON taken as a KIND: his number; NONE: he is none such")
    static void asKind() {
        HatNames hat = Checks.company("r0,p0,p0,p0,p0,p0,k0");
        due("as(0, 2)", hat.as(0, 2), 0);
        due("as(0, 4)", hat.as(0, 4), 0);
        due("as(0, 1)", hat.as(0, 1), NONE);
        due("as(6, 2)", hat.as(6, 2), 6);
        due("as(6, 4)", hat.as(6, 4), NONE);
        due("as(6, 0)", hat.as(6, 0), 6);
        hat.change(6, 4, 0);
        due("as(6, 4), changed", hat.as(6, 4), 6);
        due("as(6, 2), changed", hat.as(6, 2), 6);
        hat.change(6, 3, 0);
        due("as(6, 2), changed again", hat.as(6, 2), NONE);
    }

    @Says(at = "promise 7", words = "UNKNOWN; OUTSIDE.")
    static void asRefused() {
        HatNames hat = Checks.company("p0,e0,k0");
        for (int person : noneOf(3)) {
            due("as(" + person + ", 0)", hat.as(person, 0), UNKNOWN);
            due("as(" + person + ", 5)", hat.as(person, 5), UNKNOWN);
        }
        for (int kind : noneOf(5)) {
            due("as(0, " + kind + ")", hat.as(0, kind), OUTSIDE);
            due("as(2, " + kind + ")", hat.as(2, kind), OUTSIDE);
        }
    }
}
