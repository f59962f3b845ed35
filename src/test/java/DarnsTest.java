/** Promise 20: every set of holes, against the game played out. */
public final class DarnsTest {
    private static final Due due = new Due("DarnsTest");
    private static final int NONE = MothAudit.NONE;

    public static void main(String[] args) {
        named();
        everySet();
        wrong();
        due.end();
    }

    private static void named() {
        MothAudit x = new MothAudit();
        due.is("promise 20: no holes", x.darns(5, 0), 0);
        due.is("promise 20: no holes", x.darns(5, 1), NONE);
        x.robe(5, 0b1000000000000000, 0);
        due.is("promise 20: the last cell", x.darns(5, 0), 1);
        due.is("promise 20: the last cell", x.darns(5, 1), 30);
        x.robe(5, 0b0110000000000000, 0);
        due.is("promise 20: two at once", x.darns(5, 1), 27);
        x.robe(5, 0b1000000000000001, 0);
        due.is("promise 20: the first and the last are not side by side", x.darns(5, 0), 0);
        due.is("promise 20: lost", x.darns(5, 1), NONE);
        x.robe(5, 0b0111, 0);
        due.is("promise 20: the middle", x.darns(5, 1), 2);
        due.is("promise 20: nothing is darned", x.told(60), 7);
    }

    private static void everySet() {
        boolean[] wins = new boolean[65536];
        int[] first = new int[65536];
        MothAudit x = null;
        for (int holes = 0; holes < 65536; holes++) {
            first[holes] = NONE;
            for (int move = 31; move >= 0; move--) {
                int darned = (move % 2 == 0 ? 1 : 3) << move / 2;
                if ((holes & darned) == darned && !wins[holes & ~darned]) {
                    wins[holes] = true;
                    first[holes] = move;
                }
            }
            if (holes % 100 == 0) {
                x = new MothAudit();
            }
            x.robe(holes % 6, holes, holes % 10);
            due.is("promise 20: whether, " + holes, x.darns(holes % 6, 0), wins[holes] ? 1 : 0);
            due.is("promise 20: which, " + holes, x.darns(holes % 6, 1), first[holes]);
        }
    }

    private static void wrong() {
        MothAudit x = new MothAudit();
        int[] wrong = {-1, 6, Integer.MIN_VALUE, Integer.MAX_VALUE};
        for (int bad : wrong) {
            due.is("promise 20: unknown", x.darns(bad, 0), MothAudit.UNKNOWN);
            due.is("promise 20: unknown ahead of outside", x.darns(bad, 2), MothAudit.UNKNOWN);
            due.is("promise 20: outside", x.darns(0, bad), MothAudit.OUTSIDE);
        }
        due.is("promise 20: outside", x.darns(0, 2), MothAudit.OUTSIDE);
    }
}
