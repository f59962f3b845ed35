/** Promises 16 to 19: sights, who lied, the saying to try next. */
public final class LiarsTest {
    private static final Due due = new Due("LiarsTest");
    private static final int NONE = MothAudit.NONE;

    public static void main(String[] args) {
        sights();
        wrongSights();
        noSight();
        bittenAndNot();
        bittenWhereItStood();
        noSet();
        tries();
        triesEach();
        wrongLiars();
        due.end();
    }

    private static void sights() {
        MothAudit x = new MothAudit();
        for (int n = 1; n <= 8; n++) {
            due.is("promise 16: sight " + n, x.seen(n == 1 ? 1023 : 1, n % 2 == 0), n);
            due.is("promise 25: sights", x.told(3), n);
        }
        due.is("promise 16: full", x.seen(1, true), MothAudit.FULL);
        due.is("promise 16: outside ahead of full", x.seen(0, true), MothAudit.OUTSIDE);
        due.is("promise 16: unchanged", x.told(3), 8);
        due.is("promise 17: they go", x.forget(), 8);
        due.is("promise 17: none", x.forget(), 0);
        due.is("promise 17: none told", x.told(3), 0);
        due.is("promise 17: all sets again", x.liars(3, 0), 176);
        due.is("promise 16: from the start", x.seen(512, false), 1);
    }

    private static void wrongSights() {
        MothAudit x = new MothAudit();
        int[] wrong = {0, -1, 1024, Integer.MIN_VALUE, Integer.MAX_VALUE};
        for (int bad : wrong) {
            due.is("promise 16: outside", x.seen(bad, true), MothAudit.OUTSIDE);
            due.is("promise 16: outside", x.seen(bad, false), MothAudit.OUTSIDE);
        }
        due.is("promise 16: unchanged", x.told(3), 0);
    }

    private static void noSight() {
        MothAudit x = new MothAudit();
        int[] sets = {1, 11, 56, 176};
        int[] left = {1, 10, 46, 130};
        for (int m = 0; m <= 3; m++) {
            due.is("promise 18: sets", x.liars(m, 0), sets[m]);
            due.is("promise 18: in some", x.liars(m, 1), m == 0 ? 0 : 1023);
            due.is("promise 18: in all", x.liars(m, 2), 0);
            due.is("promise 19: the least", x.tries(m, 0), 0);
            due.is("promise 19: how many", x.tries(m, 1), left[m]);
        }
        // Who lied is asked of sights alone, not of what is false.
        x.saying(0, 0, 1, 9);
        due.is("promise 18: sets", x.liars(3, 0), 176);
    }

    private static void bittenAndNot() {
        MothAudit x = new MothAudit();
        x.seen(0b0111, true);
        due.is("promise 18: one of three", x.liars(1, 0), 3);
        due.is("promise 18: in some", x.liars(1, 1), 0b0111);
        due.is("promise 18: in all", x.liars(1, 2), 0);
        x.seen(0b0001, false);
        due.is("promise 18: one of two", x.liars(1, 0), 2);
        x.seen(0b1100, true);
        due.is("promise 18: one", x.liars(1, 0), 1);
        due.is("promise 18: in some", x.liars(1, 1), 0b0100);
        due.is("promise 18: in all", x.liars(1, 2), 0b0100);
        due.is("promise 18: none of none", x.liars(0, 0), 0);
        due.is("promise 18: 2 with any but 0, or 1 and 3", x.liars(2, 0), 1 + 8 + 1);
        due.is("promise 18: in some", x.liars(2, 1), 1022);
        due.is("promise 18: in all", x.liars(2, 2), 0);
    }

    private static void bittenWhereItStood() {
        MothAudit x = new MothAudit();
        x.seen(1, true);
        x.forget();
        x.seen(1, false);
        due.is("promise 16: not bitten, where one was", x.liars(1, 0), 10);
        due.is("promise 18: in some", x.liars(1, 1), 1022);
    }

    private static void noSet() {
        MothAudit x = new MothAudit();
        x.seen(512, true);
        due.is("promise 18: not with none", x.liars(0, 0), 0);
        due.is("promise 18: in some", x.liars(0, 1), 0);
        due.is("promise 18: in all", x.liars(0, 2), 0);
        due.is("promise 19: no set", x.tries(0, 0), NONE);
        due.is("promise 19: no set", x.tries(0, 1), NONE);
        due.is("promise 18: in all", x.liars(1, 2), 512);
        x.seen(512, false);
        due.is("promise 18: never", x.liars(3, 0), 0);
        due.is("promise 18: in some", x.liars(3, 1), 0);
        due.is("promise 18: in all", x.liars(3, 2), 0);
        due.is("promise 19: no set", x.tries(3, 0), NONE);
        due.is("promise 19: no set", x.tries(3, 1), NONE);
    }

    private static void tries() {
        MothAudit x = new MothAudit();
        x.seen(0b1111000000, true);
        due.is("promise 19: one of four", x.tries(1, 0), 6);
        due.is("promise 19: three are left", x.tries(1, 1), 3);
        x.seen(0b0011000000, false);
        due.is("promise 19: one of two", x.tries(1, 0), 8);
        due.is("promise 19: one is left", x.tries(1, 1), 1);
        x.seen(0b0100000000, false);
        due.is("promise 19: known, the least of all", x.tries(1, 0), 0);
        due.is("promise 19: known", x.tries(1, 1), 1);
    }

    /** Each saying in its turn is the least of two that halve what is left. */
    private static void triesEach() {
        for (int saying = 0; saying < 10; saying++) {
            int last = saying == 9 ? 0 : 9;
            MothAudit x = new MothAudit();
            x.seen(1 << saying | 1 << last, true);
            x.seen(1023 & ~(1 << saying | 1 << last), false);
            due.is("promise 19: one of two", x.tries(1, 0), Math.min(saying, last));
            due.is("promise 19: one is left", x.tries(1, 1), 1);
        }
    }

    private static void wrongLiars() {
        MothAudit x = new MothAudit();
        int[] wrong = {-1, 4, Integer.MIN_VALUE, Integer.MAX_VALUE};
        for (int bad : wrong) {
            due.is("promise 18: m", x.liars(bad, 0), MothAudit.OUTSIDE);
            due.is("promise 18: what", x.liars(0, bad), MothAudit.OUTSIDE);
            due.is("promise 19: m", x.tries(bad, 0), MothAudit.OUTSIDE);
            due.is("promise 19: what", x.tries(0, bad), MothAudit.OUTSIDE);
        }
        due.is("promise 18: what", x.liars(0, 3), MothAudit.OUTSIDE);
        due.is("promise 19: what", x.tries(0, 2), MothAudit.OUTSIDE);
        x.seen(1, true);
        due.is("promise 19: outside ahead of none", x.tries(0, 2), MothAudit.OUTSIDE);
    }
}
