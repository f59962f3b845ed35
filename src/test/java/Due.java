/** Counts answers that are not as due, and prints each. */
final class Due {
    private final String test;
    private String sentence = "";
    private int asked;
    private int wrong;

    Due(String test) {
        this.test = test;
    }

    /** The words of the document that the next answers are held to. */
    void says(String words) {
        sentence = "'" + words + "': ";
    }

    void is(String call, long answer, long due) {
        asked++;
        if (answer != due) {
            wrong++;
            System.out.println(test + ": " + sentence + call + " answered " + answer + ", due is " + due);
        }
    }

    void that(String rule, boolean holds) {
        is(rule, holds ? 1 : 0, 1);
    }

    /** Writes a text on the pad in place of what is there. */
    static void write(MothAudit x, String years) {
        x.wipe();
        for (int i = 0; i < years.length(); i++) {
            x.say(years.charAt(i));
        }
    }

    /** Does years in fact; answers as done() did. */
    static int live(MothAudit x, String years) {
        write(x, years);
        return x.done();
    }

    /** The first numbers below least and above most, and such as are within if they are cut to fewer bits. */
    static int[] beyond(int least, int most) {
        int[] wide = {32, 256, 65536, 1 << 20};
        int[] numbers = new int[4 + wide.length];
        numbers[0] = least - 1;
        numbers[1] = most + 1;
        numbers[2] = Integer.MIN_VALUE;
        numbers[3] = Integer.MAX_VALUE;
        for (int i = 0; i < wide.length; i++) {
            numbers[4 + i] = least + wide[i] > most ? least + wide[i] : most + 1;
        }
        return numbers;
    }

    void end() {
        System.out.println(test + ": " + (asked - wrong) + " answers as due, " + wrong + " not");
        if (wrong != 0 || asked == 0) {
            System.exit(1);
        }
    }
}
