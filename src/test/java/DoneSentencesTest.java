/** What is done: promises 8 to 13. */
public final class DoneSentencesTest extends Sentences {
    public static void main(String[] args) throws IllegalAccessException {
        run(DoneSentencesTest.class, 8, 13);
    }

    @Says(at = "promise 8", words = "A PERSON draws a NAME: WAYS then.")
    static void take() {
        HatNames hat = Checks.company("p0,p0,p0");
        due("take(0, 1)", hat.take(0, 1), 1);
        each(hat, 2, 1, NONE, NONE);
        due("take(1, 0), no way then", hat.take(1, 0), 0);
        each(hat, 2, 1, 0, NONE);
        hat.back(1);
        due("take(1, 2)", hat.take(1, 2), 1);
        due("take(2, 0), all have drawn then", hat.take(2, 0), 1);
        each(hat, 2, 1, 2, 0);
        due("count(5), one that was put back, too", hat.count(5), 4);
        hat = Checks.company(SEVEN_EASY);
        due("take(6, 0) of seven", hat.take(6, 0), 720);
        due("take(0, 6) of seven", hat.take(0, 6), 120);
    }

    @Says(at = "promise 8", words = "UNKNOWN: person, name")
    static void takeUnknown() {
        HatNames hat = drawn("p0,p0,p0", 1);
        for (int number : noneOf(3)) {
            due("take(" + number + ", 0)", hat.take(number, 0), UNKNOWN);
            due("take(1, " + number + ")", hat.take(1, number), UNKNOWN);
            due("take(0, " + number + "), who has drawn", hat.take(0, number), UNKNOWN);
            due("take(" + number + ", 1), which is drawn", hat.take(number, 1), UNKNOWN);
            due("take of " + number + " twice", hat.take(number, number), UNKNOWN);
        }
        due("count(1)", hat.count(1), 1);
        due("count(5)", hat.count(5), 1);
    }

    @Says(at = "promise 8", words = "STATE: he has drawn")
    static void takeByOneWhoHasDrawn() {
        HatNames hat = drawn("e0,e0,e0", 1);
        due("take(0, 0)", hat.take(0, 0), STATE);
        due("take(0, 1), the same", hat.take(0, 1), STATE);
        due("take(0, 2)", hat.take(0, 2), STATE);
        each(hat, 2, 1, NONE, NONE);
        due("count(5)", hat.count(5), 1);
    }

    @Says(at = "promise 8", words = "it is not in the HAT")
    static void takeWhatIsNotInTheHat() {
        HatNames hat = drawn("e0,e0,e0", 0);
        due("take(1, 0)", hat.take(1, 0), STATE);
        due("take(2, 0)", hat.take(2, 0), STATE);
        due("take(2, 1), in the hat", hat.take(2, 1), 1);
        due("take(1, 1), his own, not in the hat", hat.take(1, 1), STATE);
        due("count(5)", hat.count(5), 2);
    }

    @Says(at = "promise 8", words = "or he MAY not")
    static void takeWhatHeMayNot() {
        HatNames hat = Checks.company("p0,k5,s5,r6,e5");
        due("a plain one his own", hat.take(0, 0), STATE);
        due("a kin of his house", hat.take(1, 2), STATE);
        due("a shy one beside him", hat.take(2, 3), STATE);
        due("a proud one of a house next to his", hat.take(3, 4), STATE);
        hat.bar(4, 4);
        due("an easy one what is barred", hat.take(4, 4), STATE);
        due("count(1)", hat.count(1), 0);
        due("count(5)", hat.count(5), 0);
        hat.bar(4, 4);
        // Persons 2 and 3 may draw 0 alone, so there is no way, but he may.
        due("barred no more", hat.take(4, 4), 0);
        hat.change(2, 3, 0);
        due("of his house no more", hat.take(1, 2), 0);
        each(hat, 2, NONE, 2, NONE, NONE, 4);
    }

    /** Beyond the 512 calls that are promised, as no shorter run comes so far. */
    @Says(at = "promise 8", words = "FULL: 9999 times was drawn")
    static void takeFull() {
        HatNames hat = Checks.company("p0,p0");
        for (int time = 1; time <= 9998; time++) {
            hat.take(0, 1);
            hat.back(0);
        }
        due("take 9999", hat.take(0, 1), 1);
        due("state ahead of full", hat.take(0, 1), STATE);
        due("back(0)", hat.back(0), 1);
        due("take 10000", hat.take(0, 1), FULL);
        due("unknown ahead of full", hat.take(0, 2), UNKNOWN);
        due("may not, ahead of full", hat.take(0, 0), STATE);
        due("count(1)", hat.count(1), 0);
        due("count(5)", hat.count(5), 9999);
    }

    @Says(at = "promise 9", words = "A PERSON puts back what he has drawn: which NAME.")
    static void back() {
        HatNames hat = drawn("e0,e0,e0", 2, 0, 1);
        due("back(1), the name 0", hat.back(1), 0);
        each(hat, 2, 2, NONE, 1);
        each(hat, 4, NONE, 2, 0);
        due("back(2)", hat.back(2), 1);
        due("back(0)", hat.back(0), 2);
        due("count(1)", hat.count(1), 0);
        due("count(5), how often stays", hat.count(5), 3);
        due("ways(0)", hat.ways(0), 6);
        hat = drawn("e0,e0", 0);
        hat.bar(0, 0);
        due("back(0), what he may not any more", hat.back(0), 0);
        due("take(0, 0) then", hat.take(0, 0), STATE);
    }

    @Says(at = "promise 9", words = "UNKNOWN")
    static void backUnknown() {
        HatNames hat = drawn("e0,e0", 0, 1);
        for (int person : noneOf(2)) {
            due("back(" + person + ")", hat.back(person), UNKNOWN);
        }
        due("count(1)", hat.count(1), 2);
    }

    @Says(at = "promise 9", words = "STATE: he has drawn none.")
    static void backWithoutAName() {
        HatNames hat = drawn("e0,e0", NONE, 0);
        due("back(0), whose name is drawn", hat.back(0), STATE);
        due("back(1)", hat.back(1), 0);
        due("back(1) again", hat.back(1), STATE);
    }

    @Says(at = "promise 10", words = "Two PERSONS exchange what they have drawn: how many RINGS there are then.")
    static void exchange() {
        HatNames hat = drawn(SEVEN_EASY, 0, 1, 2, 3, 4, 5, 6);
        due("exchange(0, 6), from seven rings to six", hat.exchange(0, 6), 6);
        each(hat, 2, 6, 1, 2, 3, 4, 5, 0);
        due("exchange(6, 0), back", hat.exchange(6, 0), 7);
        each(hat, 2, 0, 1, 2, 3, 4, 5, 6);
        for (int person = 1; person <= 6; person++) {
            due("exchange(0, " + person + ")", hat.exchange(0, person), 7 - person);
        }
        due("rings(1)", hat.rings(1), 7);
        due("count(5), nothing was drawn by it", hat.count(5), 7);
        hat = drawn("e0,e0,e0", 1, 2);
        due("no ring then", hat.exchange(0, 1), 1);
        each(hat, 2, 2, 1, NONE);
        due("one ring gone", hat.exchange(0, 1), 0);
        each(hat, 2, 1, 2, NONE);
    }

    @Says(at = "promise 10", words = "UNKNOWN: one, other, or they are the same")
    static void exchangeUnknown() {
        HatNames hat = drawn("e0,e0,e0", 1, 0);
        for (int number : noneOf(3)) {
            due("exchange(" + number + ", 0)", hat.exchange(number, 0), UNKNOWN);
            due("exchange(0, " + number + ")", hat.exchange(0, number), UNKNOWN);
            due("exchange(2, " + number + "), who has none", hat.exchange(2, number), UNKNOWN);
            due("exchange of " + number + " twice", hat.exchange(number, number), UNKNOWN);
        }
        due("exchange(0, 0)", hat.exchange(0, 0), UNKNOWN);
        due("exchange(2, 2), who has none", hat.exchange(2, 2), UNKNOWN);
        each(hat, 2, 1, 0, NONE);
    }

    @Says(at = "promise 10", words = "STATE: one of them has drawn none")
    static void exchangeWithoutAName() {
        HatNames hat = drawn("e0,e0,e0", 0);
        due("exchange(0, 1)", hat.exchange(0, 1), STATE);
        due("exchange(1, 0)", hat.exchange(1, 0), STATE);
        due("exchange(1, 2)", hat.exchange(1, 2), STATE);
        each(hat, 2, 0, NONE, NONE);
    }

    @Says(at = "promise 10", words = "or MAY not draw what the other one has")
    static void exchangeOfWhatTheyMayNot() {
        HatNames hat = drawn("e0,e0,e0", 0, 1);
        hat.bar(0, 1);
        due("the first may not", hat.exchange(0, 1), STATE);
        due("the second may not", hat.exchange(1, 0), STATE);
        each(hat, 2, 0, 1, NONE);
        hat.bar(0, 1);
        hat.bar(0, 0);
        hat.bar(1, 1);
        due("count(3), both have what they may not any more", hat.count(3), 2);
        due("what they have does not count, but what they get", hat.exchange(0, 1), 1);
        due("count(3) then", hat.count(3), 0);
        hat = drawn("p0,p0,p0", 1, 2);
        due("his own", hat.exchange(0, 1), STATE);
        due("his own", hat.exchange(1, 0), STATE);
    }

    @Says(at = "promise 11", words = "All put back what they have drawn: how many had.")
    static void all() {
        HatNames hat = Checks.company(SEVEN_EASY);
        due("all(), none had", hat.all(), 0);
        hat.take(6, 0);
        due("all(), one had", hat.all(), 1);
        due("all() again", hat.all(), 0);
        hat = drawn(SEVEN_EASY, 0, 2, 1, 3, 6, 5, 4);
        hat.bar(3, 3);
        hat.see(1, 1, false);
        due("all(), seven had", hat.all(), 7);
        each(hat, 2, NONE, NONE, NONE, NONE, NONE, NONE, NONE);
        each(hat, 4, NONE, NONE, NONE, NONE, NONE, NONE, NONE);
        due("what is barred stays", hat.count(2), 1);
        due("what is seen stays", hat.count(6), 1);
        due("how often was drawn stays", hat.count(5), 7);
    }

    @Says(at = "promise 11", words = "STATE: no COMPANY.")
    static void allWithoutCompany() {
        due("all()", new HatNames().all(), STATE);
    }

    @Says(at = "promise 12", words = "A NAME is BARRED for a PERSON, or is no more, if it was")
    static void barAndNoMore() {
        HatNames hat = Checks.company("e0,e0,e0");
        due("bar(0, 2)", hat.bar(0, 2), 2);
        due("count(2)", hat.count(2), 1);
        each(hat, 3, 3, 7, 7);
        due("bar(0, 2) again", hat.bar(0, 2), 3);
        due("count(2) then", hat.count(2), 0);
        due("bar(0, 2) a third time", hat.bar(0, 2), 2);
        due("for another", hat.bar(1, 2), 2);
        each(hat, 3, 3, 3, 7);
        due("count(2), each", hat.count(2), 2);
    }

    @Says(at = "promise 12", words = "(what is drawn stays)")
    static void barWhatIsDrawn() {
        HatNames hat = drawn("e0,e0", 1, 0);
        due("bar(0, 1)", hat.bar(0, 1), 1);
        each(hat, 2, 1, 0);
        each(hat, 5, 1, 0);
        due("rings(1)", hat.rings(1), 2);
        due("count(3)", hat.count(3), 1);
        due("bar(0, 1), no more", hat.bar(0, 1), 2);
        due("count(3) then", hat.count(3), 0);
    }

    @Says(at = "promise 12", words = "how many NAMES he MAY draw then")
    static void barLeaves() {
        HatNames hat = Checks.company(SEVEN_EASY);
        for (int name = 0; name < 7; name++) {
            due("bar(6, " + name + ")", hat.bar(6, name), 6 - name);
        }
        due("count(2), seven", hat.count(2), 7);
        due("bar(6, 6), no more", hat.bar(6, 6), 1);
        hat = Checks.company("p0,k0,p1");
        due("what he may not draw anyway", hat.bar(0, 0), 2);
        due("of his own house", hat.bar(1, 0), 1);
        due("it is barred all the same", hat.count(2), 2);
        hat.change(1, 1, 0);
        each(hat, 3, 6, 6, 3);
        hat.take(0, 1);
        due("in the hat or not", hat.bar(2, 2), 2);
    }

    @Says(at = "promise 12", words = "UNKNOWN: person, name.")
    static void barUnknown() {
        HatNames hat = Checks.company("e0,e0,e0");
        for (int number : noneOf(3)) {
            due("bar(" + number + ", 0)", hat.bar(number, 0), UNKNOWN);
            due("bar(0, " + number + ")", hat.bar(0, number), UNKNOWN);
            due("bar of " + number + " twice", hat.bar(number, number), UNKNOWN);
        }
        due("count(2)", hat.count(2), 0);
        each(hat, 3, 7, 7, 7);
    }

    @Says(at = "promise 13", words = "of which KIND he was")
    static void change() {
        HatNames hat = Checks.company("r5,e5,p5");
        due("change(0, 0, 0)", hat.change(0, 0, 0), 4);
        due("change(0, 1, 9)", hat.change(0, 1, 9), 0);
        due("change(0, 2, 9)", hat.change(0, 2, 9), 1);
        due("change(0, 3, 9)", hat.change(0, 3, 9), 2);
        due("change(0, 4, 9)", hat.change(0, 4, 9), 3);
        due("change(0, 4, 9), the same", hat.change(0, 4, 9), 4);
        each(hat, 0, 4, 1, 0);
        each(hat, 1, 9, 5, 5);
        each(hat, 3, 6, 7, 3);
        hat.change(1, 1, 8);
        each(hat, 3, 4, 7, 3);
    }

    @Says(at = "promise 13", words = "(what is drawn stays)")
    static void changeOneWhoHasDrawn() {
        HatNames hat = drawn("e0,e0", 0, 1);
        hat.change(1, 2, 3);
        each(hat, 2, 0, 1);
        each(hat, 4, 0, 1);
        due("count(3)", hat.count(3), 1);
        due("ways(0)", hat.ways(0), 1);
        due("count(1)", hat.count(1), 2);
    }

    @Says(at = "promise 13", words = "UNKNOWN")
    static void changeUnknown() {
        HatNames hat = Checks.company("r5,e5");
        for (int person : noneOf(2)) {
            due("change(" + person + ", 0, 0)", hat.change(person, 0, 0), UNKNOWN);
            due("change(" + person + ", 5, 10), ahead of outside", hat.change(person, 5, 10), UNKNOWN);
        }
    }

    @Says(at = "promise 13", words = "OUTSIDE: kind (0 to 4), house (0 to 9).")
    static void changeOutside() {
        HatNames hat = Checks.company("r5,e5");
        for (int kind : noneOf(5)) {
            due("change(0, " + kind + ", 0)", hat.change(0, kind, 0), OUTSIDE);
        }
        for (int house : noneOf(10)) {
            due("change(0, 0, " + house + ")", hat.change(0, 0, house), OUTSIDE);
        }
        each(hat, 0, 4, 1);
        each(hat, 1, 5, 5);
        for (int kind = 0; kind <= 4; kind++) {
            for (int house = 0; house <= 9; house++) {
                hat.change(1, kind, house);
                due("kind " + kind, hat.person(1, 0), kind);
                due("house " + house, hat.person(1, 1), house);
            }
        }
    }
}
