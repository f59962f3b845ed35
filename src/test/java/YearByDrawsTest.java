/** Promise 22: a year by a seed. */
public final class YearByDrawsTest {
    private static final Due due = new Due("YearByDrawsTest");

    public static void main(String[] args) {
        firstDraws();
        everyDrawAlone();
        fromAllAsItIs();
        wrong();
        due.end();
    }

    /** Twenty draws of one seed, followed as a text of the acts that can be. */
    private static void firstDraws() {
        for (int seed = 0; seed < 40; seed++) {
            MothAudit x = some();
            int drawn = seed;
            for (int m = 1; m <= 20; m++) {
                drawn = (75 * drawn + 74) % 65537;
                tell(x, drawn);
                MothAudit y = some();
                due.is("promise 22: whole", y.year(seed, m, 0), whole(x));
                due.is("promise 22: false", y.year(seed, m, 2), Integer.bitCount(x.told(4)));
            }
        }
    }

    private static MothAudit some() {
        MothAudit x = new MothAudit();
        for (int saying = 0; saying < 10; saying++) {
            x.saying(saying, saying % 6, 65535 >> saying, saying);
        }
        x.robe(1, 255, 0);
        Due.write(x, "A<B<C<");
        x.done();
        return x;
    }

    // By ifs, so that no table of the program's is told again.
    private static void tell(MothAudit x, int drawn) {
        String robe = "" + (char) ('A' + drawn % 6);
        int kind = drawn / 6 % 8;
        if (kind == 4) {
            Due.write(x, "" + drawn / 48 % 10);
        } else if (kind > 4) {
            Due.write(x, kind == 7 ? "." : "*");
        } else {
            Due.write(x, robe + "<>+/".charAt(kind));
        }
        x.done();
    }

    private static int whole(MothAudit x) {
        int whole = 96;
        for (int robe = 0; robe < 6; robe++) {
            whole -= Integer.bitCount(x.told(10 * (1 + robe)));
        }
        return whole;
    }

    private static void everyDrawAlone() {
        for (int seed = 0; seed <= 9999; seed += 13) {
            OtherAudit other = new OtherAudit();
            MothAudit x = new MothAudit();
            other.saying(3, 2, 255, 4);
            x.saying(3, 2, 255, 4);
            for (int what = 0; what <= 2; what++) {
                due.is("promise 22: " + seed, x.year(seed, 1, what), other.year(seed, 1, what));
                due.is("promise 22: " + seed, x.year(seed, 99, what), other.year(seed, 99, what));
            }
        }
    }

    private static void fromAllAsItIs() {
        MothAudit x = some();
        Due.write(x, "A>");
        int eaten = x.year(9999, 99, 1);
        due.that("promise 22: moths ate", eaten > 0);
        due.is("promise 22: again the same", x.year(9999, 99, 1), eaten);
        due.is("promise 22: nothing is done in fact", whole(x), 88);
        due.is("promise 22: nothing is done in fact", x.told(1), 0);
        due.is("promise 22: nothing is done in fact", x.told(2), 7);
        due.is("promise 22: the pad stays", x.told(0), 2);
        due.is("promise 22: not from the pad", x.done(), 1);
        Due.write(x, ".".repeat(60));
        x.done();
        Due.write(x, ".".repeat(39));
        x.done();
        due.is("promise 22: year 99", x.told(1), 99);
        x.robe(0, 0, 9);
        x.saying(0, 0, 65535, 9);
        Due.write(x, "A<");
        x.done();
        OtherAudit other = new OtherAudit();
        due.is("promise 22: another", other.year(5, 40, 1), 0);
        for (int seed = 0; seed < 60; seed++) {
            MothAudit y = new MothAudit();
            other = new OtherAudit();
            endOfYears(y, other);
            for (int what = 0; what <= 2; what++) {
                due.is("promise 22: camphor stays in year 99, " + seed, y.year(seed, 60, what), other.year(seed, 60, what));
            }
        }
    }

    private static void endOfYears(MothAudit x, OtherAudit other) {
        for (int year = 0; year < 99; year++) {
            x.say('.');
            other.say('.');
            if (year == 50 || year == 98) {
                x.done();
                other.done();
            }
        }
        for (int robe = 0; robe < 6; robe++) {
            x.robe(robe, 0, 8);
            other.robe(robe, 0, 8);
            x.saying(robe, robe, 65535, 9);
            other.saying(robe, robe, 65535, 9);
        }
    }

    private static void wrong() {
        MothAudit x = new MothAudit();
        int[] wrong = {-1, 10000, Integer.MIN_VALUE, Integer.MAX_VALUE};
        for (int bad : wrong) {
            due.is("promise 22: seed", x.year(bad, 1, 0), MothAudit.OUTSIDE);
            due.is("promise 22: m", x.year(0, bad, 0), MothAudit.OUTSIDE);
            due.is("promise 22: what", x.year(0, 1, bad), MothAudit.OUTSIDE);
        }
        due.is("promise 22: m 0", x.year(0, 0, 0), MothAudit.OUTSIDE);
        due.is("promise 22: m 100", x.year(0, 100, 0), MothAudit.OUTSIDE);
        due.is("promise 22: what 3", x.year(0, 1, 3), MothAudit.OUTSIDE);
        due.is("promise 22: 9999 and 99", x.year(9999, 99, 2), 0);
    }
}
