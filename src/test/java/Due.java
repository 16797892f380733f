/** Compares answers with those that are due; a test ends with its end(). */
final class Due {
    private int wrong = 0;

    void is(String call, long got, long want) {
        if (got != want) {
            wrong++;
            System.out.println(call + " answered " + got + ", due is " + want);
        }
    }

    /** Ends the program with exit code 1 if an answer was wrong. */
    void end() {
        if (wrong != 0) {
            System.out.println(wrong + " answers are not as due");
            System.exit(1);
        }
    }

    /** Tells a house, letter by letter: what house() answers. */
    static int tell(MaynotBeSeen x, String text) {
        for (int i = 0; i < text.length(); i++) {
            x.letter(text.charAt(i));
        }
        return x.house();
    }

    static MaynotBeSeen told(String... texts) {
        MaynotBeSeen x = new MaynotBeSeen();
        for (String text : texts) {
            int answer = tell(x, text);
            if (answer <= 0) {
                throw new IllegalStateException(text + " is no house: " + answer);
            }
        }
        return x;
    }
}
