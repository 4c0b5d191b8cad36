import java.math.BigInteger;

/** What is told of all: the image of section 3, promises 22 to 25. */
public final class WholeSentencesTest extends Sentences {
    public static void main(String[] args) throws IllegalAccessException {
        run(WholeSentencesTest.class, 22, 25);
    }

    @Says(at = "section 3", words = "An IMAGE keeps KINDS, HOUSES")
    static void keepsKindsAndHouses() {
        HatNames hat = Checks.company("p0,e1,k2,s3,r4,p5,e9");
        hat.image();
        for (int person = 0; person < 7; person++) {
            hat.change(person, (hat.person(person, 0) + 1) % 5, 9 - hat.person(person, 1));
        }
        each(hat, 0, 1, 2, 3, 4, 0, 1, 2);
        each(hat, 1, 9, 8, 7, 6, 5, 4, 0);
        hat.restore();
        each(hat, 0, 0, 1, 2, 3, 4, 0, 1);
        each(hat, 1, 0, 1, 2, 3, 4, 5, 9);
    }

    @Says(at = "section 3", words = "what is drawn")
    static void keepsWhatIsDrawn() {
        HatNames hat = drawn(SEVEN_EASY, 6, NONE, NONE, 3, NONE, NONE, 0);
        hat.image();
        hat.all();
        hat.take(1, 6);
        hat.take(2, 2);
        hat.restore();
        each(hat, 2, 6, NONE, NONE, 3, NONE, NONE, 0);
        each(hat, 4, 6, NONE, NONE, 3, NONE, NONE, 0);
        hat.exchange(0, 3);
        hat.restore();
        each(hat, 2, 6, NONE, NONE, 3, NONE, NONE, 0);
    }

    @Says(at = "section 3", words = "BARRED")
    static void keepsBarred() {
        HatNames hat = Checks.company(SEVEN_EASY);
        hat.bar(0, 0);
        hat.bar(6, 6);
        hat.bar(6, 0);
        hat.image();
        hat.bar(6, 6);
        hat.bar(3, 3);
        hat.restore();
        each(hat, 3, 126, 127, 127, 127, 127, 127, 62);
        due("count(2)", hat.count(2), 3);
    }

    @Says(at = "section 3", words = "SEEN")
    static void keepsSeen() {
        HatNames hat = Checks.company("p0,p0,p0");
        for (int name = 0; name < 3; name++) {
            hat.see(0, name, name > 0);
            hat.see(2, name, name == 2);
        }
        each(hat, 6, 1, 31, 0);
        hat.image();
        hat.forget();
        hat.see(1, 1, true);
        hat.restore();
        each(hat, 6, 1, 31, 0);
        due("count(6)", hat.count(6), 6);
        due("see() then", hat.see(0, 0, true), FULL);
        hat.forget();
        hat.see(1, 1, false);
        hat.image();
        hat.see(1, 1, true);
        hat.restore();
        each(hat, 6, 31, 29, 31);
        due("forget()", hat.forget(), 1);
    }

    @Says(at = "section 3", words = "how often was drawn")
    static void keepsHowOften() {
        HatNames hat = drawn("e0,e0,e0", 0, 1);
        due("image()", hat.image(), 2);
        hat.take(2, 2);
        hat.back(2);
        hat.take(2, 2);
        due("count(5)", hat.count(5), 4);
        due("restore()", hat.restore(), 2);
        due("count(5) then", hat.count(5), 2);
    }

    @Says(at = "section 3", words = "An IMAGE keeps KINDS, HOUSES, what is drawn, BARRED, SEEN, how often was drawn.")
    static void keepsNothingElse() {
        HatNames hat = Checks.company("e0,e0");
        Checks.type(hat, "p1");
        hat.hint();
        hat.image();
        hat.hint();
        hat.hint();
        Checks.type(hat, ",k2");
        hat.restore();
        due("count(7)", hat.count(7), 5);
        due("count(8)", hat.count(8), 1);
        due("count(9)", hat.count(9), 3);
        due("company() of the page", hat.company(), 2);
        each(hat, 0, 0, 2);
    }

    @Says(at = "promise 22", words = "An IMAGE is kept (one; the latest): how often was drawn.")
    static void image() {
        HatNames hat = Checks.company("e0,e0,e0");
        due("image(), nothing drawn", hat.image(), 0);
        hat.take(0, 0);
        due("image(), one drawn", hat.image(), 1);
        due("image() changes nothing", hat.count(5), 1);
        hat.take(1, 1);
        hat.back(0);
        due("image(), two drawn", hat.image(), 2);
        hat.all();
        due("restore(), the latest", hat.restore(), 2);
        each(hat, 2, NONE, 1, NONE);
        hat.all();
        due("restore(), the latest again", hat.restore(), 2);
        each(hat, 2, NONE, 1, NONE);
    }

    @Says(at = "promise 22", words = "STATE: no COMPANY.")
    static void imageWithoutCompany() {
        HatNames hat = Checks.typed("e0,e0");
        due("image()", hat.image(), STATE);
        hat.company();
        due("restore(), none was kept", hat.restore(), STATE);
    }

    @Says(at = "promise 23", words = "It goes on from the IMAGE: how often was drawn.")
    static void restore() {
        HatNames hat = drawn("e0,e0,e0", 2);
        hat.image();
        hat.back(0);
        due("restore()", hat.restore(), 1);
        due("it goes on", hat.take(1, 0), 1);
        due("count(5)", hat.count(5), 2);
        hat.bar(2, 2);
        hat.change(2, 4, 9);
        hat.see(0, 0, false);
        due("restore() again, the image is as it was", hat.restore(), 1);
        each(hat, 0, 1, 1, 1);
        each(hat, 1, 0, 0, 0);
        each(hat, 2, 2, NONE, NONE);
        each(hat, 3, 7, 7, 7);
        each(hat, 6, 31, 31, 31);
        due("ways(0)", hat.ways(0), 2);
        due("restore() at once", hat.restore(), 1);
    }

    @Says(at = "promise 23", words = "STATE: none was kept")
    static void restoreWithoutImage() {
        due("restore(), no company", new HatNames().restore(), STATE);
        HatNames hat = drawn("e0,e0", 1);
        due("restore()", hat.restore(), STATE);
        each(hat, 2, 1, NONE);
    }

    @Says(at = "promise 23", words = "or there is another COMPANY since")
    static void restoreBehindAnotherCompany() {
        HatNames hat = drawn("e0,e0,e0", 1);
        hat.image();
        Checks.type(hat, "p1,p");
        due("company(), refused", hat.company(), STATE);
        due("restore(), no other company", hat.restore(), 1);
        hat.letter('2');
        hat.company();
        due("restore(), another company", hat.restore(), STATE);
        due("count(0)", hat.count(0), 2);
        due("restore() again", hat.restore(), STATE);
        hat.take(0, 1);
        due("image() of that", hat.image(), 1);
        hat.back(0);
        due("restore() of that", hat.restore(), 1);
        each(hat, 2, 1, NONE);
    }

    private static void counts(HatNames hat, int... want) {
        for (int what = 0; what < want.length; what++) {
            due("count(" + what + ")", hat.count(what), want[what]);
        }
    }

    @Says(at = "promise 24", words = "0 PERSONS, 1 who have drawn")
    static void countPersons() {
        counts(new HatNames(), 0, 0);
        counts(Checks.company("p0,p0"), 2, 0);
        counts(Checks.company(SEVEN_EASY), 7, 0);
        counts(drawn(SEVEN_EASY, NONE, NONE, 3), 7, 1);
        counts(drawn(SEVEN_EASY, 0, 1, 2, 3, 4, 5, 6), 7, 7);
    }

    @Says(at = "promise 24", words = "2 NAMES that are BARRED (for each PERSON)")
    static void countBarred() {
        HatNames hat = Checks.company(SEVEN_EASY);
        int bars = 0;
        for (int person = 0; person < 7; person++) {
            for (int name = 0; name < 7; name++) {
                hat.bar(person, name);
                bars++;
                due("count(2)", hat.count(2), bars);
            }
        }
        hat.bar(0, 0);
        due("count(2), one no more", hat.count(2), 48);
        hat = Checks.company("p0,k0");
        hat.bar(0, 0);
        hat.bar(1, 0);
        due("count(2), what they may not draw anyway", hat.count(2), 2);
    }

    @Says(at = "promise 24", words = "3 who have drawn what they MAY not (any more)")
    static void countAmiss() {
        HatNames hat = drawn("e0,e0,e0", 0, 1);
        due("count(3), all may", hat.count(3), 0);
        hat.bar(0, 0);
        due("count(3), one barred", hat.count(3), 1);
        hat.change(1, 0, 0);
        due("count(3), one changed", hat.count(3), 2);
        hat.bar(2, 2);
        due("count(3), one who has not drawn", hat.count(3), 2);
        hat.bar(0, 0);
        hat.back(1);
        due("count(3), none any more", hat.count(3), 0);
    }

    @Says(at = "promise 24", words = "4 who are SURE")
    static void countSure() {
        due("count(4), no company", new HatNames().count(4), 0);
        due("count(4), nobody", Checks.company(SEVEN_EASY).count(4), 0);
        due("count(4), nobody, no way", Checks.company("k0,k0").count(4), 0);
        due("count(4), all", Checks.company("p0,p0").count(4), 2);
        due("count(4), one who has drawn", drawn(SEVEN_EASY, 0).count(4), 1);
        due("count(4), no way, two who have drawn", drawn("p0,p0,p0", 1, 0).count(4), 2);
        due("count(4), the last one, too", drawn(SEVEN_EASY, 0, 1, 2, 3, 4, 5).count(4), 7);
    }

    @Says(at = "promise 24", words = "5 how often was drawn")
    static void countDraws() {
        HatNames hat = Checks.company("e0,e0");
        hat.take(0, 0);
        hat.take(0, 1);
        due("count(5), a refused one is none", hat.count(5), 1);
        hat.take(1, 1);
        hat.exchange(0, 1);
        due("count(5), an exchange is none", hat.count(5), 2);
        hat.drawn(60, 1, 0);
        hat.all();
        due("count(5), put back or not", hat.count(5), 2);
        hat.take(0, 0);
        due("count(5), again", hat.count(5), 3);
    }

    @Says(at = "promise 24", words = "6 what is SEEN, 7 letters of THE PAGE")
    static void countSeenAndLetters() {
        HatNames hat = Checks.company("e0,e0");
        for (int many = 0; many <= 6; many++) {
            due("count(6)", hat.count(6), many);
            hat.see(0, 0, true);
        }
        due("count(6), a refused one is none", hat.count(6), 6);
        for (int many = 0; many <= 24; many++) {
            due("count(7)", hat.count(7), many);
            hat.letter('x');
        }
        due("count(7), a refused one is none", hat.count(7), 24);
    }

    @Says(at = "promise 24", words = "8 how often a COMPANY was read, 9 how often hint() was done")
    static void countReadAndHints() {
        HatNames hat = Checks.company("e0,e0");
        hat.company();
        due("count(8), a refused one is none", hat.count(8), 1);
        hat.hint();
        hat.hint();
        due("count(9)", hat.count(9), 2);
        Checks.type(hat, "e0,e0");
        hat.company();
        due("count(8), two", hat.count(8), 2);
    }

    @Says(at = "promise 24", words = "OUTSIDE.")
    static void countOutside() {
        for (int what : noneOf(10)) {
            due("count(" + what + ")", Checks.company("p0,p0").count(what), OUTSIDE);
            due("count(" + what + "), no company", new HatNames().count(what), OUTSIDE);
        }
    }

    /** By numbers without a bound, of which a long is the rest; so it does not hang on Java's wrapping. */
    private static long digestOf(int... numbers) {
        BigInteger h = BigInteger.valueOf(1361);
        for (int number : numbers) {
            h = h.multiply(BigInteger.valueOf(31)).add(BigInteger.valueOf(number));
        }
        return h.longValue();
    }

    @Says(at = "promise 25", words = "h is 1361, then for each of these numbers, in order, 31 times h, and it")
    static void digestByHand() {
        due("no company", new HatNames().digest(), digestOf(0, 0, 0, 0, 0, 0, 0, 0, 0, 0));
        due("two", Checks.company("p0,p0").digest(), digestOf(
                0, 0, -1, 2, -1, 1, 31, 1, 0,
                0, 0, -1, 1, -1, 0, 31, 0, 0,
                1, 1, 1000000, 0, 0,
                2, 0, 0, 0, 2, 0, 0, 0, 1, 0));
    }

    @Says(at = "promise 25", words = "(as longs, wrapping)")
    static void digestWraps() {
        HatNames hat = drawn("e0,e7,r3", 0, 2);
        hat.bar(1, 2);
        hat.see(2, 0, false);
        hat.hint();
        Checks.type(hat, "~,");
        // Whatever person 2 is, he may draw 0, so no sort is left; and 1 is all that he can draw.
        due("three", hat.digest(), digestOf(
                1, 0, 0, 7, 0, 0, 31, 0, 1,
                1, 7, 2, 3, -1, 2, 31, 0, 0,
                4, 3, -1, 3, 1, 1, 0, -1, 0,
                1, 0, 1000000, 1, 1,
                126, 44,
                3, 2, 1, 1, 3, 2, 1, 2, 1, 1));
    }

    @Says(at = "promise 25", words = "with a COMPANY ways() for 0 and 1, likely(), rings() for 0 and 1; letters of"
            + " THE PAGE")
    static void digestWithoutCompany() {
        due("the letters by their codes", Checks.typed("k1").digest(),
                digestOf(107, 49, 0, 0, 0, 0, 0, 0, 0, 2, 0, 0));
        HatNames hat = Checks.typed("p1,p2,p3,p4,p5,p6,p7,~p1");
        int[] numbers = new int[34];
        String page = "p1,p2,p3,p4,p5,p6,p7,~p1";
        for (int place = 0; place < 24; place++) {
            numbers[place] = page.charAt(place);
        }
        numbers[24 + 7] = 24;
        due("a full page", hat.digest(), digestOf(numbers));
    }

    @Says(at = "promise 25", words = "of each PERSON what person() tells for 0 to 8")
    static void digestOfSeven() {
        HatNames hat = drawn("e0,k1,s2,r9,p4,e5,k6", 6, NONE, NONE, NONE, 0);
        hat.bar(5, 5);
        hat.see(3, 3, false);
        int[] numbers = new int[63 + 5 + 10];
        int at = 0;
        for (int person = 0; person < 7; person++) {
            for (int what = 0; what <= 8; what++) {
                numbers[at++] = hat.person(person, what);
            }
        }
        numbers[at++] = hat.ways(0);
        numbers[at++] = hat.ways(1);
        numbers[at++] = hat.likely();
        numbers[at++] = hat.rings(0);
        numbers[at++] = hat.rings(1);
        for (int what = 0; what <= 9; what++) {
            numbers[at++] = hat.count(what);
        }
        due("seven", hat.digest(), digestOf(numbers));
        due("seven, again", hat.digest(), digestOf(numbers));
    }
}
