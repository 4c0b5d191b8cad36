/** What would be: section 2, promises 14 to 18. */
public final class WouldBeSentencesTest extends Sentences {
    public static void main(String[] args) throws IllegalAccessException {
        run(WouldBeSentencesTest.class, 14, 18);
    }

    private static void ways(HatNames hat, int ways, int round) {
        due("ways(0)", hat.ways(0), ways);
        due("ways(1)", hat.ways(1), round);
    }

    @Says(at = "section 2", words = "how all who have not drawn yet can draw what is in the HAT, one NAME each,"
            + " so that each MAY")
    static void howManyWays() {
        ways(Checks.company("k0,k0"), 0, 0);
        ways(Checks.company("p0,p0"), 1, 1);
        ways(Checks.company("e0,e0"), 2, 1);
        ways(Checks.company("p0,p0,p0,p0"), 9, 6);
        ways(Checks.company(SEVEN_EASY), 5040, 720);
        ways(Checks.company("p0,p0,p0,p0,p0,p0,p0"), 1854, 720);
        ways(Checks.company("s0,s0,s0,s0"), 1, 0);
        ways(Checks.company(MIXED), 72, 26);
        HatNames hat = Checks.company("e0,e0,e0");
        hat.bar(2, 2);
        ways(hat, 4, 2);
        ways(drawn("e0,e0,e0", NONE, 0), 2, 1);
    }

    @Says(at = "section 2", words = "(1, if all have drawn)")
    static void oneIfAllHaveDrawn() {
        HatNames hat = drawn("e0,e0,e0", 1, 2, 0);
        ways(hat, 1, 1);
        hat.bar(0, 1);
        hat.bar(1, 2);
        due("count(3)", hat.count(3), 2);
        ways(hat, 1, 1);
        hat.back(0);
        ways(hat, 0, 0);
    }

    @Says(at = "section 2", words = "They are numbered from 0, as they come by the NAME of the first PERSON who has"
            + " not drawn yet, then of the next one, and so on, the least ones first.")
    static void numbered() {
        HatNames hat = Checks.company("p0,p0,p0,p0");
        wayRow(hat, 0, 1, 0, 3, 2);
        wayRow(hat, 1, 1, 2, 3, 0);
        wayRow(hat, 2, 1, 3, 0, 2);
        wayRow(hat, 3, 2, 0, 3, 1);
        wayRow(hat, 4, 2, 3, 0, 1);
        wayRow(hat, 5, 2, 3, 1, 0);
        wayRow(hat, 6, 3, 0, 1, 2);
        wayRow(hat, 7, 3, 2, 0, 1);
        wayRow(hat, 8, 3, 2, 1, 0);
        hat = Checks.company(SEVEN_EASY);
        wayRow(hat, 0, 0, 1, 2, 3, 4, 5, 6);
        wayRow(hat, 1, 0, 1, 2, 3, 4, 6, 5);
        // 1234 is 1 of 720, 4 of 120, 1 of 24, 1 of 6, 2 of 2, none of 1.
        wayRow(hat, 1234, 1, 5, 2, 3, 6, 0, 4);
        wayRow(hat, 5039, 6, 5, 4, 3, 2, 1, 0);
        hat = drawn("e0,e0,e0,e0", 3, NONE, 0);
        wayRow(hat, 0, 3, 1, 0, 2);
        wayRow(hat, 1, 3, 2, 0, 1);
    }

    private static void wayRow(HatNames hat, int way, int... names) {
        for (int person = 0; person < names.length; person++) {
            due("way(" + way + ", " + person + ")", hat.way(way, person), names[person]);
        }
    }

    @Says(at = "section 2", words = "ROUND: in how many of them all PERSONS are in one RING.")
    static void round() {
        ways(drawn("e0,e0", 0), 1, 0);
        ways(drawn("e0,e0", 1), 1, 1);
        ways(drawn("e0,e0,e0,e0", 1), 6, 2);
        ways(drawn("e0,e0,e0,e0", 1, 0), 2, 0);
        ways(drawn("e0,e0,e0,e0", NONE, NONE, NONE, 3), 6, 0);
        ways(drawn(SEVEN_EASY, 6), 720, 120);
        ways(drawn(SEVEN_EASY, 1, 2, 3, 4, 5, 6), 1, 1);
        ways(drawn(SEVEN_EASY, 1, 2, 3, 4, 5, 6, 0), 1, 1);
        ways(drawn(SEVEN_EASY, 1, 2, 0, 4, 5, 6, 3), 1, 0);
        ways(drawn("s0,s0,s0,s0", 2), 1, 0);
    }

    @Says(at = "section 2", words = "SURE for a PERSON: the NAME that he has drawn, if he has")
    static void sureByDrawing() {
        HatNames hat = drawn("e0,e0,e0", NONE, 0);
        each(hat, 5, NONE, 0, NONE);
        hat.bar(1, 0);
        each(hat, 5, NONE, 0, NONE);
        hat.bar(0, 1);
        hat.bar(0, 2);
        due("ways(0)", hat.ways(0), 0);
        each(hat, 5, NONE, 0, NONE);
        each(drawn("e0,e0,e0", 2, 0, 1), 5, 2, 0, 1);
    }

    @Says(at = "section 2", words = "else the one that he has in all WAYS")
    static void sureInAllWays() {
        each(Checks.company("p0,p0"), 5, 1, 0);
        each(drawn("p0,p0,p0", 1), 5, 1, 2, 0);
        HatNames hat = Checks.company("e0,e0,e0");
        hat.bar(0, 0);
        hat.bar(0, 1);
        each(hat, 5, 2, NONE, NONE);
        // He may draw three names, but 0 and 1 go to those who may draw these alone.
        hat = Checks.company("e0,e0,e0");
        hat.bar(0, 2);
        hat.bar(1, 2);
        each(hat, 5, NONE, NONE, 2);
    }

    @Says(at = "section 2", words = "none (also if there is no WAY)")
    static void sureNone() {
        each(Checks.company("e0,e0"), 5, NONE, NONE);
        each(Checks.company("k0,k0"), 5, NONE, NONE);
        HatNames hat = Checks.company("p0,p0");
        hat.bar(1, 0);
        each(hat, 5, NONE, NONE);
        // Person 0 may draw one name alone, but there is no way.
        hat = Checks.company("e0,k0,k0");
        hat.bar(0, 1);
        hat.bar(0, 2);
        each(hat, 5, NONE, NONE, NONE);
        due("count(4)", hat.count(4), 0);
    }

    @Says(at = "section 2", words = "BAR: which one more bar leaves just one WAY: told as 10 times a PERSON who has"
            + " not drawn yet, and a NAME of the HAT that he MAY draw")
    static void bar() {
        // The ways are 1 2 0, 2 0 1 and 2 1 0: without 2 for person 0, one is left.
        HatNames hat = Checks.company("e0,e0,e0");
        hat.bar(0, 0);
        hat.bar(2, 2);
        due("ways(0)", hat.ways(0), 3);
        due("hint()", hat.hint(), 2);
        due("nothing is barred by it", hat.count(2), 2);
        due("ways(0), as before", hat.ways(0), 3);
        hat.bar(0, 2);
        due("ways(0) with that bar", hat.ways(0), 1);
        // Those who have drawn, and what they have, are not told.
        due("hint(), two have not drawn", drawn("e0,e0,e0", 0).hint(), 11);
        due("hint(), the name 0 for person 1", drawn("e0,e0,e0", 2).hint(), 10);
        due("hint(), the last two", drawn(SEVEN_EASY, 0, 1, 2, 3, 4).hint(), 55);
        due("hint(), the last two, other names", drawn(SEVEN_EASY, 6, 5, 4, 3, 2).hint(), 50);
        hat = drawn("e0,e0,e0", 1);
        hat.bar(0, 1);
        due("hint(), one has what he may not any more", hat.hint(), 10);
    }

    @Says(at = "section 2", words = "of like ones the least")
    static void barTheLeast() {
        due("e0,e0: 0, 1, 10 and 11 are alike", Checks.company("e0,e0").hint(), 0);
        due("p0,p0,p0: 1, 2, 10 and more are alike", Checks.company("p0,p0,p0").hint(), 1);
    }

    @Says(at = "section 2", words = "none; -2, if there is just one as it is")
    static void barNone() {
        due("too many ways", Checks.company("e0,e0,e0").hint(), NONE);
        due("no way", Checks.company("k0,k0").hint(), NONE);
        due("5040 ways", Checks.company(SEVEN_EASY).hint(), NONE);
        due("just one", Checks.company("p0,p0").hint(), -2);
        due("just one, one has drawn", drawn("p0,p0,p0", 1).hint(), -2);
        due("all have drawn", drawn("e0,e0", 0, 1).hint(), -2);
    }

    @Says(at = "section 2", words = "a million, if all have drawn")
    static void likelyIfAllHaveDrawn() {
        HatNames hat = drawn("e0,e0,e0", 1, 2, 0);
        due("likely()", hat.likely(), 1000000);
        hat.bar(1, 2);
        due("likely(), one may not any more", hat.likely(), 1000000);
    }

    @Says(at = "section 2", words = "0, if the next one MAY draw none")
    static void likelyIfTheNextMayDrawNone() {
        due("the first", Checks.company("k0,k0").likely(), 0);
        due("the second", Checks.company("p0,k0").likely(), 0);
        due("the only one left", drawn("p0,p0,p0", 1, 0).likely(), 0);
        HatNames hat = drawn("e0,e0,e0", 0);
        hat.bar(1, 1);
        hat.bar(1, 2);
        due("the next of two left", hat.likely(), 0);
    }

    @Says(at = "section 2", words = "else what it comes to behind each NAME that he MAY draw, all together, by how"
            + " many these are")
    static void likelyBehindEach() {
        due("whatever they draw", Checks.company(SEVEN_EASY).likely(), 1000000);
        // 1 for 0: then half of what 1 may draw goes well; 2 for 0: then 1 must draw 0, and it does.
        due("p0,p0,p0", Checks.company("p0,p0,p0").likely(), 750000);
        due("p0,p0,p0, the first has 1", drawn("p0,p0,p0", 1).likely(), 500000);
        due("p0,p0,p0, the first has 2", drawn("p0,p0,p0", 2).likely(), 1000000);
        // By their numbers: he who may draw one name alone comes last, and half the time it is gone.
        due("e0,p0", Checks.company("e0,p0").likely(), 500000);
        due("p0,e0", Checks.company("p0,e0").likely(), 1000000);
    }

    @Says(at = "section 2", words = "rounded down (so each time)")
    static void likelyRoundedEachTime() {
        // Of three left with 3 among them: 2000000 by 3 is 666666; so 2999998 by 4 at first, not 750000.
        due("e0,e0,e0,p0", Checks.company("e0,e0,e0,p0").likely(), 749999);
        due("e0,e0,e0,p0, the first has 0", drawn("e0,e0,e0,p0", 0).likely(), 666666);
        due(MIXED, Checks.company(MIXED).likely(), 629628);
        due("seven", Checks.company("p0,p0,p0,p0,p0,p0,p0").likely(), 899466);
    }

    @Says(at = "promise 14", words = "what = 0 WAYS, 1 ROUND.")
    static void waysTold() {
        HatNames hat = Checks.company("p0,p0,p0,p0");
        due("ways(0)", hat.ways(0), 9);
        due("ways(1)", hat.ways(1), 6);
        due("ways(0) again", hat.ways(0), 9);
    }

    @Says(at = "promise 14", words = "OUTSIDE; STATE: no COMPANY.")
    static void waysRefused() {
        HatNames hat = Checks.company("p0,p0");
        for (int what : noneOf(2)) {
            due("ways(" + what + ")", hat.ways(what), OUTSIDE);
            due("ways(" + what + "), ahead of state", new HatNames().ways(what), OUTSIDE);
        }
        due("ways(0), no company", new HatNames().ways(0), STATE);
        due("ways(1), no company", new HatNames().ways(1), STATE);
    }

    @Says(at = "promise 15", words = "The NAME that a PERSON has in a WAY (the one he has drawn, if he has).")
    static void way() {
        HatNames hat = drawn("p0,p0,p0,p0", NONE, 3);
        wayRow(hat, 0, 1, 3, 0, 2);
        wayRow(hat, 1, 2, 3, 0, 1);
        wayRow(hat, 2, 2, 3, 1, 0);
        hat = drawn("e0,e0", 1, 0);
        hat.bar(0, 1);
        wayRow(hat, 0, 1, 0);
    }

    @Says(at = "promise 15", words = "UNKNOWN: way, person.")
    static void wayUnknown() {
        HatNames hat = Checks.company("p0,p0,p0,p0");
        for (int way : noneOf(9)) {
            due("way(" + way + ", 0)", hat.way(way, 0), UNKNOWN);
            due("way(" + way + ", 4)", hat.way(way, 4), UNKNOWN);
        }
        for (int person : noneOf(4)) {
            due("way(0, " + person + ")", hat.way(0, person), UNKNOWN);
            due("way(8, " + person + ")", hat.way(8, person), UNKNOWN);
        }
        due("way(5040, 0) of seven", Checks.company(SEVEN_EASY).way(5040, 0), UNKNOWN);
        due("way(0, 0), no way", Checks.company("k0,k0").way(0, 0), UNKNOWN);
        due("way(0, 0), drawn, but no way", drawn("p0,p0,p0", 1, 0).way(0, 0), UNKNOWN);
        due("way(1, 0), all have drawn", drawn("p0,p0", 1, 0).way(1, 0), UNKNOWN);
        due("way(0, 0), no company", new HatNames().way(0, 0), UNKNOWN);
    }

    @Says(at = "promise 16", words = "BAR; NONE; -2.")
    static void hint() {
        HatNames hat = Checks.company("e0,e0,e0");
        due("hint(), six ways", hat.hint(), NONE);
        hat.take(2, 2);
        due("hint(), two ways", hat.hint(), 0);
        hat.take(1, 0);
        due("hint(), one way", hat.hint(), -2);
        due("count(9)", hat.count(9), 3);
    }

    @Says(at = "promise 16", words = "STATE: no COMPANY")
    static void hintWithoutCompany() {
        HatNames hat = new HatNames();
        due("hint()", hat.hint(), STATE);
        due("it was not done", hat.count(9), 0);
    }

    @Says(at = "promise 16", words = "or hint() was done 20 times")
    static void hintTwentyTimes() {
        HatNames hat = new HatNames();
        hat.hint();
        Checks.type(hat, "e0,e0");
        hat.company();
        for (int time = 1; time <= 20; time++) {
            due("hint() " + time, hat.hint(), 0);
            due("count(9)", hat.count(9), time);
        }
        due("hint() 21", hat.hint(), STATE);
        due("hint() 22", hat.hint(), STATE);
        due("count(9)", hat.count(9), 20);
        hat.image();
        hat.restore();
        due("hint() behind an image", hat.hint(), STATE);
    }

    @Says(at = "promise 17", words = "LIKELY. STATE: no COMPANY.")
    static void likely() {
        due("likely()", Checks.company("p0,p0").likely(), 1000000);
        due("likely(), no company", new HatNames().likely(), STATE);
    }

    @Says(at = "promise 18", words = "what = 0 how many there are")
    static void ringsHowMany() {
        due("nobody has drawn", Checks.company(SEVEN_EASY).rings(0), 0);
        due("a row", drawn(SEVEN_EASY, 1, 2, 3, 4, 5, 6).rings(0), 0);
        due("one of seven", drawn(SEVEN_EASY, 1, 2, 3, 4, 5, 6, 0).rings(0), 1);
        due("seven of one", drawn(SEVEN_EASY, 0, 1, 2, 3, 4, 5, 6).rings(0), 7);
        due("three", drawn(SEVEN_EASY, 6, 1, 4, 5, 3, 2, 0).rings(0), 3);
        due("three, and a row", drawn(SEVEN_EASY, 0, 1, 3, 2, 5, 6).rings(0), 3);
        due("one of two", drawn("p0,p0", 1, 0).rings(0), 1);
    }

    @Says(at = "promise 18", words = "1 how many PERSONS are in the longest (0: there is none)")
    static void ringsLongest() {
        due("nobody has drawn", Checks.company(SEVEN_EASY).rings(1), 0);
        due("a row", drawn(SEVEN_EASY, 1, 2, 3, 4, 5, 6).rings(1), 0);
        due("one of seven", drawn(SEVEN_EASY, 1, 2, 3, 4, 5, 6, 0).rings(1), 7);
        due("seven of one", drawn(SEVEN_EASY, 0, 1, 2, 3, 4, 5, 6).rings(1), 1);
        due("of 2, 1 and 4", drawn(SEVEN_EASY, 6, 1, 4, 5, 3, 2, 0).rings(1), 4);
        due("of 4, 1 and 2", drawn(SEVEN_EASY, 1, 2, 3, 0, 4, 6, 5).rings(1), 4);
        due("a row longer than the rings", drawn(SEVEN_EASY, 0, 2, 1, 4, 5, 6).rings(1), 2);
    }

    @Says(at = "promise 18", words = "OUTSIDE; STATE: no COMPANY.")
    static void ringsRefused() {
        HatNames hat = Checks.company("p0,p0");
        for (int what : noneOf(2)) {
            due("rings(" + what + ")", hat.rings(what), OUTSIDE);
            due("rings(" + what + "), ahead of state", new HatNames().rings(what), OUTSIDE);
        }
        due("rings(0), no company", new HatNames().rings(0), STATE);
        due("rings(1), no company", new HatNames().rings(1), STATE);
    }
}
