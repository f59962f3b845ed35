/** Counts answers that are not as due, and prints each. */
final class Due {
    private final String test;
    private int asked;
    private int wrong;

    Due(String test) {
        this.test = test;
    }

    void is(String call, long answer, long due) {
        asked++;
        if (answer != due) {
            wrong++;
            System.out.println(test + ": " + call + " answered " + answer + ", due is " + due);
        }
    }

    void that(String rule, boolean holds) {
        is(rule, holds ? 1 : 0, 1);
    }

    /** Writes a text on the pad in place of what is there. */
    static void write(MothAudit x, String years) {
        x.wipe();
        for (int i = 0; i < years.length(); i++) {
            x.say(years.charAt(i));
        }
    }

    void end() {
        System.out.println(test + ": " + (asked - wrong) + " answers as due, " + wrong + " not");
        if (wrong != 0 || asked == 0) {
            System.exit(1);
        }
    }
}
