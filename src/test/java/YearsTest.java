/** Promises 8 to 12: years judged, done, and what is behind them. */
public final class YearsTest {
    private static final Due due = new Due("YearsTest");
    private static final int NONE = MothAudit.NONE, NO = MothAudit.NO;

    public static void main(String[] args) {
        reasons();
        leastReason();
        lastYear();
        refusals();
        mothsEatTheLeast();
        laterSayingsFindHoles();
        camphorOfTheRobe();
        darningAndYears();
        barePlace();
        barePlaceTwice();
        nothingDoneInFact();
        done();
        due.end();
    }

    private static void reasons() {
        judged(new MothAudit(), "", NONE, NONE);
        judged(new MothAudit(), "A<A<", 1, 1);
        judged(new MothAudit(), "A>", 0, 1);
        judged(new MothAudit(), "A<A>A>", 2, 1);
        judged(new MothAudit(), "B<A+B+", 2, 2);
        judged(new MothAudit(), "B<B/", 1, 2);
        judged(new MothAudit(), "A+A+A+A+A+A+A+A+A+", NONE, NONE);
        judged(new MothAudit(), "A+A+A+A+A+A+A+A+A+A+", 9, 3);
        judged(new MothAudit(), "A+A+A+A+A+A+A+A+A+.A+", NONE, NONE);
        judged(new MothAudit(), "A/", 0, 3);
        judged(new MothAudit(), "..9", 2, 4);
        judged(new MothAudit(), "*", 0, 5);
        judged(new MothAudit(), "A<A>*", 2, 5);
        judged(new MothAudit(), "A<*A>", NONE, NONE);
        MothAudit x = new MothAudit();
        x.saying(9, 0, 0, 1);
        judged(x, "9", NONE, NONE);
        judged(x, "99", 1, 4);
        x.robe(5, 32768, 0);
        judged(x, "F/", NONE, NONE);
        judged(x, "F/F/", 1, 3);
    }

    private static void leastReason() {
        MothAudit x = new MothAudit();
        x.robe(3, 0, 9);
        judged(x, "D<D+", 1, 2);
        judged(x, "D<D/", 1, 2);
        judged(x, "D+", 0, 3);
        judged(x, "D/", 0, 3);
        judged(x, "D/D>*", 0, 3);
    }

    private static void lastYear() {
        MothAudit x = new MothAudit();
        Due.write(x, ".".repeat(60));
        due.is("promise 9: sixty years", x.done(), 60);
        due.is("promise 25: the year", x.told(1), 60);
        judged(x, ".".repeat(39), NONE, NONE);
        due.is("promise 12: the year", x.eaten(3), 99);
        due.is("promise 25: not yet", x.told(1), 60);
        judged(x, ".".repeat(40), 39, 6);
        due.is("promise 9: not all", x.done(), NO);
        judged(x, ".".repeat(39), NONE, NONE);
        due.is("promise 9: to 99", x.done(), 39);
        due.is("promise 25: 99", x.told(1), 99);
        judged(x, ".", 0, 6);
        judged(x, "A+", NONE, NONE);
        due.is("promise 12: the year", x.eaten(3), 99);
    }

    private static void judged(MothAudit x, String years, int act, int why) {
        Due.write(x, years);
        due.is("promise 8: " + years + " act", x.judge(0), act);
        due.is("promise 8: " + years + " why", x.judge(1), why);
        due.is("promise 10: " + years + " stands", x.behind(0, 0) == NO ? 0 : 1, act == NONE ? 1 : 0);
        due.is("promise 11: " + years + " stands", x.untrue(0) == NO ? 0 : 1, act == NONE ? 1 : 0);
        due.is("promise 12: " + years + " stands", x.eaten(0) == NO ? 0 : 1, act == NONE ? 1 : 0);
    }

    private static void refusals() {
        String[] texts = {"", "A", "A>", "**", "Z"};
        for (String years : texts) {
            MothAudit x = new MothAudit();
            Due.write(x, years);
            int[] wrong = {-1, Integer.MIN_VALUE, Integer.MAX_VALUE};
            for (int bad : wrong) {
                due.is("promise 8: outside", x.judge(bad), MothAudit.OUTSIDE);
                due.is("promise 10: unknown", x.behind(bad, bad), MothAudit.UNKNOWN);
                due.is("promise 10: outside", x.behind(5, bad), MothAudit.OUTSIDE);
                due.is("promise 11: unknown", x.untrue(bad), MothAudit.UNKNOWN);
                due.is("promise 12: outside", x.eaten(bad), MothAudit.OUTSIDE);
            }
            due.is("promise 8: outside", x.judge(2), MothAudit.OUTSIDE);
            due.is("promise 10: unknown", x.behind(6, 3), MothAudit.UNKNOWN);
            due.is("promise 10: outside", x.behind(5, 3), MothAudit.OUTSIDE);
            due.is("promise 11: unknown", x.untrue(10), MothAudit.UNKNOWN);
            due.is("promise 12: outside", x.eaten(4), MothAudit.OUTSIDE);
            boolean stands = years.isEmpty();
            boolean fault = years.equals("A") || years.equals("Z");
            due.is("promise 8: no", x.judge(0), stands ? NONE : fault ? NO : 0);
            due.is("promise 8: no", x.judge(1), stands ? NONE : fault ? NO : years.equals("A>") ? 1 : 5);
            due.is("promise 10: no", x.behind(5, 0), stands ? 0 : NO);
            due.is("promise 10: no", x.behind(5, 1), stands ? 0 : NO);
            due.is("promise 10: no", x.behind(5, 2), stands ? 0 : NO);
            due.is("promise 11: no", x.untrue(9), stands ? 0 : NO);
            due.is("promise 12: no", x.eaten(0), stands ? 0 : NO);
            due.is("promise 12: no", x.eaten(1), stands ? NONE : NO);
            due.is("promise 12: no", x.eaten(2), stands ? NONE : NO);
            due.is("promise 12: no", x.eaten(3), stands ? 0 : NO);
            due.is("promise 9: no", x.done(), stands ? 0 : NO);
            due.is("promise 9: the pad stays", x.told(0), years.length());
        }
    }

    private static void mothsEatTheLeast() {
        MothAudit x = new MothAudit();
        x.robe(2, 0b0100, 1);
        x.saying(7, 2, 0b1000000001110100, 4);
        Due.write(x, "C<*");
        due.is("promise 10: three of the least", x.behind(2, 0), 0b1110100);
        due.is("promise 10: camphor stays", x.behind(2, 1), 1);
        due.is("promise 10: in the press", x.behind(2, 2), 1);
        due.is("promise 10: another is not", x.behind(1, 2), 0);
        due.is("promise 12: eaten", x.eaten(0), 3);
        due.is("promise 11: no truer for it", x.untrue(7), 4);
        Due.write(x, "C<**");
        due.is("promise 10: all, if fewer", x.behind(2, 0), 0b1000000001110100);
        due.is("promise 12: eaten", x.eaten(0), 4);
        Due.write(x, "C<*C>C/C<*");
        due.is("promise 10: darned and eaten again", x.behind(2, 0), 0b1000000001110100);
        due.is("promise 12: eaten", x.eaten(0), 5);
        Due.write(x, "C<*C>");
        due.is("promise 10: taken out", x.behind(2, 2), 0);
        Due.write(x, "D<*");
        due.is("promise 12: not said there", x.eaten(0), 0);
        Due.write(x, "7C<*");
        due.is("promise 12: owned up to", x.eaten(0), 0);
        due.is("promise 11: owned up to", x.untrue(7), 0);
        due.is("promise 11: not in fact", x.told(172), 4);
    }

    private static void laterSayingsFindHoles() {
        MothAudit x = new MothAudit();
        x.saying(3, 0, 0b0111, 1);
        x.saying(5, 0, 0b0111, 1);
        x.saying(8, 1, 0b0001, 9);
        Due.write(x, "A<*");
        due.is("promise 10: each eats its own", x.behind(0, 0), 0b0011);
        x.saying(0, 0, 0b1101, 2);
        due.is("promise 10: the least saying first", x.behind(0, 0), 0b0111);
        due.is("promise 12: eaten", x.eaten(0), 4 - 1);
        Due.write(x, "A<B<*");
        due.is("promise 10: the other", x.behind(1, 0), 1);
        due.is("promise 12: eaten", x.eaten(0), 4);
    }

    private static void camphorOfTheRobe() {
        MothAudit x = new MothAudit();
        x.saying(0, 0, 65535, 3);
        for (int camphor = 0; camphor <= 9; camphor++) {
            x.robe(0, 0, camphor);
            x.robe(1, 0, 9 - camphor);
            Due.write(x, "A<*");
            due.is("promise 12: camphor " + camphor, x.eaten(0), Math.max(3 - camphor, 0));
        }
    }

    private static void darningAndYears() {
        MothAudit x = new MothAudit();
        x.robe(4, 0b1010000000000000, 2);
        x.robe(5, 0b11, 0);
        Due.write(x, "E/");
        due.is("promise 10: the least is darned", x.behind(4, 0), 0b1000000000000000);
        Due.write(x, "E/E/");
        due.is("promise 10: all are darned", x.behind(4, 0), 0);
        Due.write(x, ".F+");
        due.is("promise 10: camphor less", x.behind(4, 1), 1);
        due.is("promise 10: camphor more", x.behind(5, 1), 1);
        due.is("promise 12: the year", x.eaten(3), 1);
        Due.write(x, "E<...");
        due.is("promise 10: 0 at least, in the press too", x.behind(4, 1), 0);
        due.is("promise 10: 0 at least", x.behind(5, 1), 0);
        due.is("promise 12: the year", x.eaten(3), 3);
        due.is("promise 12: none eaten", x.eaten(0), 0);
    }

    private static void barePlace() {
        MothAudit x = new MothAudit();
        x.robe(4, 65535 - 6, 0);
        x.robe(3, 65535 - 1, 0);
        x.robe(1, 65535, 0);
        x.saying(0, 4, 65535, 1);
        x.saying(1, 3, 65535, 1);
        Due.write(x, "B<*");
        due.is("promise 12: it had none ahead", x.eaten(1), NONE);
        due.is("promise 12: it had none ahead", x.eaten(2), NONE);
        Due.write(x, "E<*.*D<*");
        due.is("promise 12: the act", x.eaten(1), 3);
        due.is("promise 12: the robe", x.eaten(2), 4);
        Due.write(x, "E<*D<*");
        due.is("promise 12: both by one act", x.eaten(1), 3);
        due.is("promise 12: the least robe", x.eaten(2), 3);
        Due.write(x, "E<*");
        due.is("promise 12: not yet", x.eaten(1), NONE);
        due.is("promise 12: not yet", x.eaten(2), NONE);
    }

    private static void barePlaceTwice() {
        MothAudit x = new MothAudit();
        x.robe(0, 65534, 0);
        x.saying(9, 0, 1, 1);
        Due.write(x, "A<*A>A/A<*");
        due.is("promise 12: the first of two", x.eaten(1), 1);
        due.is("promise 12: the robe", x.eaten(2), 0);
        due.is("promise 12: both are counted", x.eaten(0), 2);
        Due.write(x, "A<*A>A/");
        due.is("promise 12: darned behind", x.eaten(1), 1);
    }

    private static void nothingDoneInFact() {
        MothAudit x = new MothAudit();
        x.saying(2, 1, 7, 2);
        Due.write(x, "A+B<*2.");
        for (int turn = 0; turn < 2; turn++) {
            due.is("promise 8", x.judge(0), NONE);
            due.is("promise 10", x.behind(1, 0), 3);
            due.is("promise 11", x.untrue(2), 0);
            due.is("promise 12", x.eaten(0), 2);
            due.is("promise 12", x.eaten(3), 1);
        }
        due.is("promise 10: holes as they were", x.told(20), 0);
        due.is("promise 10: press as it was", x.told(2), 0);
        due.is("promise 12: year as it was", x.told(1), 0);
        due.is("promise 11: false as it was", x.told(4), 4);
        due.is("promise 10: camphor as it was", x.told(11), 0);
        due.is("promise 8: the pad stays", x.told(0), 7);
    }

    private static void done() {
        MothAudit x = new MothAudit();
        x.saying(2, 1, 7, 2);
        Due.write(x, "A+B<*2A+.");
        due.is("promise 9: acts", x.done(), 6);
        due.is("promise 9: the pad is empty", x.told(0), 0);
        due.is("promise 9: holes", x.told(20), 3);
        due.is("promise 9: camphor", x.told(11), 1);
        due.is("promise 9: press", x.told(2), 2);
        due.is("promise 9: year", x.told(1), 1);
        due.is("promise 9: false ones", x.told(4), 0);
        due.is("promise 12: eaten in the years on the pad", x.eaten(0), 0);
        due.is("promise 9: nothing", x.done(), 0);
        Due.write(x, "B<");
        due.is("promise 9: can not be", x.done(), NO);
        due.is("promise 9: the pad stays", x.told(0), 2);
        Due.write(x, "A+A+B<");
        due.is("promise 9: can not be", x.done(), NO);
        due.is("promise 9: nothing is done", x.told(11), 1);
        Due.write(x, "A+A+B");
        due.is("promise 9: fault", x.done(), NO);
        due.is("promise 9: nothing is done", x.told(11), 1);
    }
}
