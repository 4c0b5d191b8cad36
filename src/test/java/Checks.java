/** What the project's tests share: answers held against what is due, and companies typed in. */
final class Checks {
    private String heading = "";
    private int done;
    private int wrong;

    /** What the answers that follow are told under. */
    void head(String text) {
        heading = text;
    }

    int done() {
        return done;
    }

    void due(String call, long got, long want) {
        done++;
        if (got != want) {
            wrong++;
            System.out.println(heading + call + " answered " + got + ", due is " + want);
        }
    }

    void holds(String what, boolean so) {
        due(what, so ? 1 : 0, 1);
    }

    /** Ends the test, with exit code 1 if an answer was wrong or nothing was checked at all. */
    void end(String test) {
        System.out.println(test + ": " + done + " answers, " + wrong + " wrong");
        System.exit(wrong == 0 && done > 0 ? 0 : 1);
    }

    static void type(HatNames hat, String text) {
        for (int place = 0; place < text.length(); place++) {
            hat.letter(text.charAt(place));
        }
    }

    static HatNames typed(String text) {
        HatNames hat = new HatNames();
        type(hat, text);
        return hat;
    }

    static HatNames company(String text) {
        HatNames hat = typed(text);
        hat.company();
        return hat;
    }
}
