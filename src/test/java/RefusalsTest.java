import java.util.Arrays;
import java.util.function.Supplier;
import java.util.function.ToIntFunction;

/**
 * Refusals: of several the first as told by each call, and they change nothing. Of two objects with
 * the same calls behind them one is given the refused call besides; then both are asked for all.
 */
public final class RefusalsTest extends Sentences {
    private static final int[] ODD = {LOW, -1, 7, 8, 32, HIGH};

    public static void main(String[] args) throws IllegalAccessException {
        run(RefusalsTest.class, 1, 0);
    }

    private static void refused(String call, Supplier<HatNames> made, ToIntFunction<HatNames> done, int want) {
        HatNames asked = made.get();
        due(call, done.applyAsInt(asked), want);
        boolean same = Arrays.equals(toldOfAll(asked), toldOfAll(made.get()));
        due(call + " changes nothing", same ? 1 : 0, 1);
    }

    /** The state as far as calls tell it: what is now, what is barred under it, then the image. */
    private static long[] toldOfAll(HatNames hat) {
        long[] told = new long[64];
        int at = 0;
        told[at++] = hat.digest();
        for (int turn = 0; turn < 2; turn++) {
            told[at++] = hat.all();
            for (int person = 0; person < 7; person++) {
                told[at++] = hat.person(person, 6);
                told[at++] = hat.change(person, 1, 0);
                told[at++] = hat.person(person, 3);
            }
            told[at++] = hat.forget();
            told[at++] = hat.restore();
            told[at++] = hat.digest();
        }
        told[at++] = hat.hint();
        told[at++] = hat.count(9);
        told[at++] = hat.company();
        told[at++] = hat.blank();
        told[at++] = hat.digest();
        return told;
    }

    private static HatNames withPage() {
        return Checks.typed("p1,k");
    }

    /** Three persons, something of all that can be, and an image that is not as it is now. */
    private static HatNames busy() {
        HatNames hat = Checks.company("e0,p1,r2");
        hat.take(0, 0);
        hat.bar(1, 1);
        hat.see(2, 2, false);
        hat.image();
        hat.hint();
        hat.take(1, 2);
        hat.bar(0, 0);
        hat.bar(2, 2);
        hat.see(1, 0, true);
        Checks.type(hat, "p1,p2,");
        return hat;
    }

    private static HatNames withSixSeen() {
        HatNames hat = busy();
        for (int more = 0; more < 4; more++) {
            hat.see(more % 3, more % 2, more > 1);
        }
        return hat;
    }

    private static HatNames withFullPage() {
        HatNames hat = busy();
        Checks.type(hat, "123456789012345678");
        return hat;
    }

    private static HatNames withTwentyHints() {
        HatNames hat = busy();
        for (int time = 2; time <= 20; time++) {
            hat.hint();
        }
        return hat;
    }

    @Says(at = "section 3", words = "they change nothing")
    static void withoutCompany() {
        for (Supplier<HatNames> made : Arrays.<Supplier<HatNames>>asList(HatNames::new, RefusalsTest::withPage)) {
            for (int number : new int[] {LOW, -1, 0, 1, HIGH}) {
                refused("person(" + number + ", 0)", made, hat -> hat.person(number, 0), UNKNOWN);
                refused("as(" + number + ", 0)", made, hat -> hat.as(number, 0), UNKNOWN);
                refused("take(" + number + ", 0)", made, hat -> hat.take(number, 0), UNKNOWN);
                refused("back(" + number + ")", made, hat -> hat.back(number), UNKNOWN);
                refused("exchange(" + number + ", 1)", made, hat -> hat.exchange(number, 1), UNKNOWN);
                refused("bar(" + number + ", 0)", made, hat -> hat.bar(number, 0), UNKNOWN);
                refused("change(" + number + ", 0, 0)", made, hat -> hat.change(number, 0, 0), UNKNOWN);
                refused("way(" + number + ", 0)", made, hat -> hat.way(number, 0), UNKNOWN);
                refused("see(" + number + ", 0, true)", made, hat -> hat.see(number, 0, true), UNKNOWN);
            }
            refused("company()", made, HatNames::company, STATE);
            refused("all()", made, HatNames::all, STATE);
            refused("ways(0)", made, hat -> hat.ways(0), STATE);
            refused("hint()", made, HatNames::hint, STATE);
            refused("likely()", made, HatNames::likely, STATE);
            refused("rings(0)", made, hat -> hat.rings(0), STATE);
            refused("drawn(1, 0, 0)", made, hat -> hat.drawn(1, 0, 0), STATE);
            refused("image()", made, HatNames::image, STATE);
            refused("restore()", made, HatNames::restore, STATE);
        }
    }

    @Says(at = "section 3", words = "UNKNOWN (a number names nothing)")
    static void unknown() {
        Supplier<HatNames> made = RefusalsTest::busy;
        for (int number : noneOf(3)) {
            refused("person(" + number + ", 2)", made, hat -> hat.person(number, 2), UNKNOWN);
            refused("as(" + number + ", 1)", made, hat -> hat.as(number, 1), UNKNOWN);
            refused("take(" + number + ", 1)", made, hat -> hat.take(number, 1), UNKNOWN);
            refused("take(2, " + number + ")", made, hat -> hat.take(2, number), UNKNOWN);
            refused("back(" + number + ")", made, hat -> hat.back(number), UNKNOWN);
            refused("exchange(" + number + ", 0)", made, hat -> hat.exchange(number, 0), UNKNOWN);
            refused("exchange(0, " + number + ")", made, hat -> hat.exchange(0, number), UNKNOWN);
            refused("bar(" + number + ", 0)", made, hat -> hat.bar(number, 0), UNKNOWN);
            refused("bar(0, " + number + ")", made, hat -> hat.bar(0, number), UNKNOWN);
            refused("change(" + number + ", 0, 0)", made, hat -> hat.change(number, 0, 0), UNKNOWN);
            refused("way(0, " + number + ")", made, hat -> hat.way(0, number), UNKNOWN);
            refused("see(" + number + ", 0, true)", made, hat -> hat.see(number, 0, true), UNKNOWN);
            refused("see(0, " + number + ", true)", made, hat -> hat.see(0, number, true), UNKNOWN);
        }
        for (int way : noneOf(1)) {
            refused("way(" + way + ", 0)", made, hat -> hat.way(way, 0), UNKNOWN);
        }
        refused("exchange(1, 1)", made, hat -> hat.exchange(1, 1), UNKNOWN);
    }

    @Says(at = "section 3", words = "OUTSIDE (it is not as told)")
    static void outside() {
        Supplier<HatNames> made = RefusalsTest::busy;
        for (int code : new int[] {LOW, -1, 0, 127, HIGH}) {
            refused("letter(" + code + ")", made, hat -> hat.letter(code), OUTSIDE);
        }
        for (int what : noneOf(10)) {
            refused("person(0, " + what + ")", made, hat -> hat.person(0, what), OUTSIDE);
            refused("as(0, " + what + ")", made, hat -> hat.as(0, what), OUTSIDE);
            refused("change(0, " + what + ", 1)", made, hat -> hat.change(0, what, 1), OUTSIDE);
            refused("change(0, 1, " + what + ")", made, hat -> hat.change(0, 1, what), OUTSIDE);
            refused("ways(" + what + ")", made, hat -> hat.ways(what), OUTSIDE);
            refused("rings(" + what + ")", made, hat -> hat.rings(what), OUTSIDE);
            refused("drawn(1, 1, " + what + ")", made, hat -> hat.drawn(1, 1, what), OUTSIDE);
            refused("count(" + what + ")", made, hat -> hat.count(what), OUTSIDE);
        }
        refused("drawn(0, 1, 0)", made, hat -> hat.drawn(0, 1, 0), OUTSIDE);
        refused("drawn(61, 1, 0)", made, hat -> hat.drawn(61, 1, 0), OUTSIDE);
        refused("drawn(1, -1, 0)", made, hat -> hat.drawn(1, -1, 0), OUTSIDE);
    }

    @Says(at = "section 3", words = "STATE (as told)")
    static void state() {
        Supplier<HatNames> made = RefusalsTest::busy;
        refused("company()", made, HatNames::company, STATE);
        refused("take(0, 1), he has drawn", made, hat -> hat.take(0, 1), STATE);
        refused("take(2, 0), not in the hat", made, hat -> hat.take(2, 0), STATE);
        refused("take(2, 1), he may not", made, hat -> hat.take(2, 1), STATE);
        refused("back(2)", made, hat -> hat.back(2), STATE);
        refused("exchange(0, 2), the other has none", made, hat -> hat.exchange(0, 2), STATE);
        refused("exchange(2, 0), the one has none", made, hat -> hat.exchange(2, 0), STATE);
        refused("hint() 21", RefusalsTest::withTwentyHints, HatNames::hint, STATE);
        refused("exchange(0, 1), the one may not", () -> withBar(0, 2), hat -> hat.exchange(0, 1), STATE);
        refused("exchange(1, 0), the one may not", () -> withBar(1, 0), hat -> hat.exchange(1, 0), STATE);
        refused("exchange(0, 1), the other may not", () -> withBar(1, 0), hat -> hat.exchange(0, 1), STATE);
        refused("restore()", () -> drawn("e0,e0", 1), HatNames::restore, STATE);
        refused("restore(), another company", RefusalsTest::readAgain, HatNames::restore, STATE);
        due("exchange(0, 1) without a bar", busy().exchange(0, 1), 0);
    }

    private static HatNames withBar(int person, int name) {
        HatNames hat = busy();
        hat.bar(person, name);
        return hat;
    }

    private static HatNames readAgain() {
        HatNames hat = busy();
        Checks.type(hat, "e3");
        hat.company();
        hat.take(0, 1);
        return hat;
    }

    @Says(at = "section 3", words = "FULL")
    static void full() {
        refused("letter(112)", RefusalsTest::withFullPage, hat -> hat.letter('p'), FULL);
        refused("see(0, 0, true)", RefusalsTest::withSixSeen, hat -> hat.see(0, 0, true), FULL);
        refused("see(2, 1, false)", RefusalsTest::withSixSeen, hat -> hat.see(2, 1, false), FULL);
    }

    @Says(at = "section 3", words = "Refusals, of several the first as told by each call")
    static void theFirstAsTold() {
        for (int odd : ODD) {
            refused("letter: outside, full", RefusalsTest::withFullPage, hat -> hat.letter(Math.min(odd, 0)), OUTSIDE);
            refused("person: unknown, outside", RefusalsTest::busy, hat -> hat.person(odd, 9), UNKNOWN);
            refused("as: unknown, outside", RefusalsTest::busy, hat -> hat.as(odd, 5), UNKNOWN);
            refused("take: unknown name, he has drawn", RefusalsTest::busy, hat -> hat.take(0, odd), UNKNOWN);
            refused("take: unknown person, not in the hat", RefusalsTest::busy, hat -> hat.take(odd, 0), UNKNOWN);
            refused("exchange: unknown, has none", RefusalsTest::busy, hat -> hat.exchange(2, odd), UNKNOWN);
            refused("change: unknown, outside kind", RefusalsTest::busy, hat -> hat.change(odd, 5, 0), UNKNOWN);
            refused("change: unknown, outside house", RefusalsTest::busy, hat -> hat.change(odd, 0, 10), UNKNOWN);
            refused("see: unknown person, full", RefusalsTest::withSixSeen, hat -> hat.see(odd, 0, true), UNKNOWN);
            refused("see: unknown name, full", RefusalsTest::withSixSeen, hat -> hat.see(0, odd, true), UNKNOWN);
            refused("ways: outside, state", HatNames::new, hat -> hat.ways(odd), OUTSIDE);
            refused("rings: outside, state", HatNames::new, hat -> hat.rings(odd), OUTSIDE);
            refused("drawn: outside what, state", HatNames::new, hat -> hat.drawn(1, 0, odd), OUTSIDE);
        }
        refused("exchange: the same, has none", RefusalsTest::busy, hat -> hat.exchange(2, 2), UNKNOWN);
        refused("exchange: the same, no company", HatNames::new, hat -> hat.exchange(0, 0), UNKNOWN);
        refused("person: no company, outside", HatNames::new, hat -> hat.person(0, 9), UNKNOWN);
        refused("as: no company, outside", HatNames::new, hat -> hat.as(0, 5), UNKNOWN);
        refused("change: no company, outside", HatNames::new, hat -> hat.change(0, 5, 10), UNKNOWN);
        refused("drawn: outside times, state", HatNames::new, hat -> hat.drawn(0, 0, 0), OUTSIDE);
        refused("drawn: outside seed, state", HatNames::new, hat -> hat.drawn(1, -1, 0), OUTSIDE);
    }
}
