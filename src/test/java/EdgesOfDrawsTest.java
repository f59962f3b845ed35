/** Part 4 of the terms, DARNS to a YEAR, and promises 20 to 22: each sentence that names a boundary, by its own words. */
public final class EdgesOfDrawsTest {
    private static final Due due = new Due("EdgesOfDrawsTest");
    private static final int NONE = MothAudit.NONE, UNKNOWN = MothAudit.UNKNOWN, OUTSIDE = MothAudit.OUTSIDE;
    private static final long LOST_OUTSIDE = -1000000000000000002L;

    public static void main(String[] args) {
        whoCanNotHasLost();
        oneHoleOrTwo();
        sideBySide();
        whetherWhoBeginsCanWin();
        whichFirst();
        darnNumbers();
        cellsOfChance();
        tenths();
        atLeast();
        lowestTerms();
        partsOfChance();
        seeds();
        howManyActs();
        whatOfAYear();
        leftOver();
        laid();
        takenOut();
        camphor();
        darned();
        ownedUpTo();
        moths();
        yearEnds();
        eachIfThatCanBe();
        fromAllAsItIs();
        nothingIsDone();
        due.end();
    }

    private static void darn(int holes, int whether, int which) {
        for (int robe = 0; robe <= 5; robe += 5) {
            MothAudit x = new MothAudit();
            x.robe(robe, holes, 9);
            due.is("darns(" + robe + ", 0) of holes " + holes, x.darns(robe, 0), whether);
            due.is("darns(" + robe + ", 1) of holes " + holes, x.darns(robe, 1), which);
        }
    }

    private static void whoCanNotHasLost() {
        due.says("who can not has lost");
        darn(0, 0, NONE);
    }

    private static void oneHoleOrTwo() {
        due.says("each time one HOLE, or two that are side by side");
        darn(1, 1, 0);
        darn(32768, 1, 30);
        darn(0b11, 1, 1);
        darn(0b1100000000000000, 1, 29);
        // Of three: the middle one, and each has one.
        darn(0b111, 1, 2);
        darn(0b1110000000000000, 1, 28);
        darn(65535, 1, 3);
    }

    private static void sideBySide() {
        due.says("two that are side by side");
        darn(0b101, 0, NONE);
        darn(0b1000000000000001, 0, NONE);
        darn(0b1010000000000000, 0, NONE);
        darn(0b11011, 0, NONE);
        darn(0b0110000110000000, 0, NONE);
    }

    private static void whetherWhoBeginsCanWin() {
        due.says("whether who begins can win (1, 0)");
        darn(0b10001, 0, NONE);
        darn(0b10101, 1, 0);
        darn(0b1111, 1, 3);
        darn(0b10111, 1, 1);
        darn(0b101111, 0, NONE);
    }

    private static void whichFirst() {
        due.says("twice the lesser CELL, and 1 if it is two: the least (NONE)");
        // Three single holes: to darn any of them wins.
        darn(0b1010100000000000, 1, 22);
        // One and two: the two are made one, by either cell.
        darn(0b1101, 1, 4);
        darn(0b1011, 1, 0);
        darn(0b1101000000000000, 1, 28);
    }

    private static void darnNumbers() {
        due.says("DARNS: whether (what = 0), which (1; NONE). UNKNOWN; OUTSIDE");
        MothAudit x = new MothAudit();
        due.is("darns(-1, 0)", x.darns(-1, 0), UNKNOWN);
        due.is("darns(6, 0)", x.darns(6, 0), UNKNOWN);
        due.is("darns(0, -1)", x.darns(0, -1), OUTSIDE);
        due.is("darns(0, 2)", x.darns(0, 2), OUTSIDE);
    }

    private static void chance(int n, int t, int k, long upper, long lower) {
        MothAudit x = new MothAudit();
        String call = "chance(" + n + ", " + t + ", " + k + ", ";
        due.is(call + "0)", x.chance(n, t, k, 0), upper);
        due.is(call + "1)", x.chance(n, t, k, 1), lower);
    }

    private static void cellsOfChance() {
        due.says("each of n CELLS (0 to 16)");
        chance(0, 5, 0, 1, 1);
        chance(0, 5, 1, 0, 1);
        chance(1, 5, 1, 1, 2);
        chance(16, 5, 16, 1, 65536);
        chance(16, 5, 1, 65535, 65536);
        chance(-1, 5, 0, LOST_OUTSIDE, LOST_OUTSIDE);
        chance(17, 5, 0, LOST_OUTSIDE, LOST_OUTSIDE);
    }

    private static void tenths() {
        due.says("with t tenths (0 to 10)");
        chance(3, 0, 0, 1, 1);
        chance(3, 0, 1, 0, 1);
        chance(3, 10, 3, 1, 1);
        chance(3, 10, 0, 1, 1);
        chance(3, 10, 4, 0, 1);
        chance(1, 1, 1, 1, 10);
        chance(1, 9, 1, 9, 10);
        chance(3, -1, 1, LOST_OUTSIDE, LOST_OUTSIDE);
        chance(3, 11, 1, LOST_OUTSIDE, LOST_OUTSIDE);
    }

    private static void atLeast() {
        due.says("that k (0 to 16) at least are");
        chance(16, 3, 0, 1, 1);
        chance(2, 5, 0, 1, 1);
        chance(2, 5, 1, 3, 4);
        chance(2, 5, 2, 1, 4);
        chance(2, 5, 3, 0, 1);
        chance(2, 5, 16, 0, 1);
        chance(16, 10, 16, 1, 1);
        chance(15, 10, 16, 0, 1);
        chance(2, 5, -1, LOST_OUTSIDE, LOST_OUTSIDE);
        chance(2, 5, 17, LOST_OUTSIDE, LOST_OUTSIDE);
    }

    private static void lowestTerms() {
        due.says("Fractions are told in lowest terms");
        chance(1, 5, 1, 1, 2);
        chance(1, 4, 1, 2, 5);
        chance(2, 2, 2, 1, 25);
        chance(16, 0, 1, 0, 1);
        chance(16, 0, 0, 1, 1);
        chance(16, 1, 16, 1, 10000000000000000L);
        chance(16, 9, 1, 9999999999999999L, 10000000000000000L);
        // 3 to the 16th; all of 10 to the 16th but 7 to the 16th.
        chance(16, 3, 16, 43046721L, 10000000000000000L);
        chance(16, 3, 1, 10000000000000000L - 33232930569601L, 10000000000000000L);
    }

    private static void partsOfChance() {
        due.says("by part: 0 the upper, 1 the lower number; refused with LOST and the refusal");
        MothAudit x = new MothAudit();
        due.is("chance(1, 3, 1, -1)", x.chance(1, 3, 1, -1), LOST_OUTSIDE);
        due.is("chance(1, 3, 1, 0)", x.chance(1, 3, 1, 0), 3);
        due.is("chance(1, 3, 1, 1)", x.chance(1, 3, 1, 1), 10);
        due.is("chance(1, 3, 1, 2)", x.chance(1, 3, 1, 2), LOST_OUTSIDE);
        due.is("LOST and OUTSIDE", MothAudit.LOST + MothAudit.OUTSIDE, LOST_OUTSIDE);
    }

    /** One in which all kinds of acts can be: robes with holes, sayings that are false, three robes laid in. */
    private static MothAudit some() {
        MothAudit x = new MothAudit();
        for (int saying = 0; saying <= 9; saying++) {
            x.saying(saying, saying % 6, 65535 >> saying, 9 - saying % 3);
        }
        x.robe(1, 255, 0);
        x.robe(5, 3855, 0);
        Due.live(x, "A<B<C<");
        return x;
    }

    private static int whole(MothAudit x) {
        int whole = 0;
        for (int robe = 0; robe <= 5; robe++) {
            whole += 16 - Integer.bitCount(x.told(10 + 10 * robe));
        }
        return whole;
    }

    /** Lives through the acts that the seed draws, each told as a text; answers how many cells were eaten. */
    private static int follow(MothAudit x, int seed, int acts) {
        int eaten = 0;
        long drawn = seed;
        for (int n = 0; n < acts; n++) {
            drawn = (75 * drawn + 74) % 65537;
            int kind = (int) (drawn / 6 % 8);
            char robe = (char) ('A' + drawn % 6);
            int before = whole(x);
            String act = kind == 4 ? "" + drawn / 48 % 10 : kind == 7 ? "." : "*";
            if (kind < 4) {
                act = robe + "" + "<>+/".charAt(kind);
            }
            if (Due.live(x, act) == 1 && act.equals("*")) {
                eaten += before - whole(x);
            }
        }
        return eaten;
    }

    private static void followed(int seed, int acts) {
        MothAudit x = some();
        int eaten = follow(x, seed, acts);
        MothAudit y = some();
        String call = "year(" + seed + ", " + acts + ", ";
        due.is(call + "0)", y.year(seed, acts, 0), whole(x));
        due.is(call + "1)", y.year(seed, acts, 1), eaten);
        due.is(call + "2)", y.year(seed, acts, 2), Integer.bitCount(x.told(4)));
    }

    private static void seeds() {
        due.says("by a seed (0 to 9999)");
        followed(0, 30);
        followed(1, 30);
        followed(9998, 30);
        followed(9999, 30);
        MothAudit x = new MothAudit();
        due.is("year(0, 1, 0)", x.year(0, 1, 0), 96);
        due.is("year(9999, 1, 0)", x.year(9999, 1, 0), 96);
        due.is("year(-1, 1, 0)", x.year(-1, 1, 0), OUTSIDE);
        due.is("year(10000, 1, 0)", x.year(10000, 1, 0), OUTSIDE);
    }

    private static void howManyActs() {
        due.says("of m ACTS (1 to 99)");
        for (int seed : new int[] {0, 875, 9999}) {
            followed(seed, 1);
            followed(seed, 2);
            followed(seed, 98);
            followed(seed, 99);
        }
        MothAudit x = new MothAudit();
        due.is("year(0, 0, 0)", x.year(0, 0, 0), OUTSIDE);
        due.is("year(0, 100, 0)", x.year(0, 100, 0), OUTSIDE);
        // 74 is the first number of seed 0: SAYING 1 is owned up to.
        x.saying(1, 0, 0, 1);
        due.is("year(0, 1, 2), by hand", x.year(0, 1, 2), 0);
    }

    private static void whatOfAYear() {
        due.says("A YEAR: WHOLE (what = 0), eaten (1), how many SAYINGS are FALSE (2). OUTSIDE");
        MothAudit x = new MothAudit();
        x.robe(0, 65535, 0);
        x.saying(0, 5, 3, 2);
        x.saying(9, 5, 3, 2);
        Due.live(x, "F<");
        // Seed 2: moths, in one act.
        due.is("year(2, 1, -1)", x.year(2, 1, -1), OUTSIDE);
        due.is("year(2, 1, 0)", x.year(2, 1, 0), 78);
        due.is("year(2, 1, 1)", x.year(2, 1, 1), 2);
        due.is("year(2, 1, 2)", x.year(2, 1, 2), 2);
        due.is("year(2, 1, 3)", x.year(2, 1, 3), OUTSIDE);
        for (int robe = 0; robe <= 5; robe++) {
            x.robe(robe, 65535, 0);
        }
        due.is("no cell is whole", x.year(2, 1, 0), 0);
        for (int saying = 0; saying <= 9; saying++) {
            x.saying(saying, 0, 0, 9);
        }
        due.is("all sayings are false", x.year(2, 1, 2), 10);
    }

    private static void leftOver() {
        due.says("x becomes (75 x and 74) left over by 65537");
        // 75 times 872 and 74 are 65474, of 873 65549: the first that is left over, by 12.
        followed(872, 30);
        followed(873, 30);
        // 875: 65699, 162 is left over, by which robe A is darned.
        MothAudit x = new MothAudit();
        x.robe(0, 1, 0);
        due.is("year(875, 1, 0)", x.year(875, 1, 0), 96);
        // 5525 leads to 0 at the sixteenth act.
        followed(5525, 15);
        followed(5525, 16);
        followed(5525, 40);
    }

    // By robe, a seed whose first act is of that robe; where two are drawn, the second is moths.
    private static final int[] LAYS = {901, 1803, 8, 926, 1748, 33};
    private static final int[] TAKES_OUT = {919, 1773, 106, 976, 1766, 3};
    private static final int[] DARNS = {875, 1761, 14, 884, 1754, 7};
    // By saying, a seed whose first act owns up to it.
    private static final int[] OWNS_UP = {25, 0, 4389, 2642, 1756, 9, 16, 4373, 2626, 1772};

    private static void laid() {
        due.says("0 it is laid into the PRESS");
        for (int robe = 0; robe <= 5; robe++) {
            MothAudit x = new MothAudit();
            x.saying(0, robe, 65535, 9);
            x.saying(1, (robe + 1) % 6, 65535, 9);
            due.is("year(" + LAYS[robe] + ", 1, 1)", x.year(LAYS[robe], 1, 1), 0);
            due.is("year(" + LAYS[robe] + ", 2, 1)", x.year(LAYS[robe], 2, 1), 9);
            Due.live(x, (char) ('A' + robe) + "<");
            due.is("it lay there, year(" + LAYS[robe] + ", 2, 1)", x.year(LAYS[robe], 2, 1), 9);
        }
    }

    private static void takenOut() {
        due.says("1 taken out");
        for (int robe = 0; robe <= 5; robe++) {
            MothAudit x = new MothAudit();
            x.saying(0, robe, 65535, 9);
            x.saying(1, (robe + 1) % 6, 65535, 3);
            Due.live(x, (char) ('A' + robe) + "<" + (char) ('A' + (robe + 1) % 6) + "<");
            due.is("year(" + TAKES_OUT[robe] + ", 2, 1)", x.year(TAKES_OUT[robe], 2, 1), 3);
            x.robe(robe, 0, 0);
            due.is("it did not lie there, year(" + TAKES_OUT[robe] + ", 2, 1)", x.year(TAKES_OUT[robe], 2, 1), 3);
        }
    }

    private static void camphor() {
        due.says("2 CAMPHOR");
        // By these seeds robes 2, 3, 4 get camphor, are laid in, and there are moths.
        int[] seeds = {3397, 1202, 2200};
        for (int i = 0; i < 3; i++) {
            MothAudit x = new MothAudit();
            x.saying(0, 2 + i, 65535, 9);
            for (int camphor = 0; camphor <= 9; camphor++) {
                x.robe(2 + i, 0, camphor);
                int eaten = Math.max(8 - camphor, 0);
                due.is("camphor " + camphor + ", year(" + seeds[i] + ", 3, 1)", x.year(seeds[i], 3, 1), eaten);
            }
        }
    }

    private static void darned() {
        due.says("3 it is darned");
        for (int robe = 0; robe <= 5; robe++) {
            MothAudit x = new MothAudit();
            due.is("no hole, year(" + DARNS[robe] + ", 1, 0)", x.year(DARNS[robe], 1, 0), 96);
            x.robe((robe + 1) % 6, 1, 0);
            due.is("another's hole, year(" + DARNS[robe] + ", 1, 0)", x.year(DARNS[robe], 1, 0), 95);
            x.robe(robe, 65535, 0);
            due.is("sixteen holes, year(" + DARNS[robe] + ", 1, 0)", x.year(DARNS[robe], 1, 0), 80);
            Due.live(x, (char) ('A' + robe) + "<");
            due.is("in the press, year(" + DARNS[robe] + ", 1, 0)", x.year(DARNS[robe], 1, 0), 79);
        }
    }

    private static void ownedUpTo() {
        due.says("4 SAYING x by 48 (cut) left over by 10 is owned up to");
        for (int saying = 0; saying <= 9; saying++) {
            MothAudit x = new MothAudit();
            int seed = OWNS_UP[saying];
            due.is("it is true, year(" + seed + ", 1, 2)", x.year(seed, 1, 2), 0);
            for (int other = 0; other <= 9; other++) {
                x.saying(other, 0, 0, 9);
            }
            due.is("all are false, year(" + seed + ", 1, 2)", x.year(seed, 1, 2), 9);
            x.saying(saying, 0, 0, 0);
            due.is("all others are false, year(" + seed + ", 1, 2)", x.year(seed, 1, 2), 9);
        }
    }

    private static void moths() {
        due.says("5, 6 moths");
        for (int seed : new int[] {2, 4}) {
            MothAudit x = new MothAudit();
            x.saying(0, 5, 65535, 9);
            due.is("nothing in the press, year(" + seed + ", 1, 1)", x.year(seed, 1, 1), 0);
            Due.live(x, "F<");
            due.is("year(" + seed + ", 1, 1)", x.year(seed, 1, 1), 9);
            due.is("year(" + seed + ", 1, 0)", x.year(seed, 1, 0), 87);
        }
        MothAudit x = new MothAudit();
        x.saying(0, 5, 65535, 9);
        Due.live(x, "F<");
        due.is("twice, year(36, 2, 1)", x.year(36, 2, 1), 16);
    }

    private static void yearEnds() {
        due.says("7 a year ends");
        // Seed 15: a year ends, then moths.
        MothAudit x = new MothAudit();
        x.saying(0, 5, 65535, 5);
        for (int camphor = 0; camphor <= 9; camphor++) {
            x.robe(5, 0, camphor);
            Due.live(x, "F<");
            due.is("camphor " + camphor + ", year(15, 2, 1)", x.year(15, 2, 1), camphor == 0 ? 5 : Math.max(6 - camphor, 0));
        }
    }

    private static void eachIfThatCanBe() {
        due.says("each if that can be: a year ends");
        for (int year = 98; year <= 99; year++) {
            MothAudit x = new MothAudit();
            Due.live(x, ".".repeat(60));
            Due.live(x, ".".repeat(year - 60));
            x.saying(0, 5, 65535, 5);
            x.robe(5, 0, 4);
            Due.live(x, "F<");
            due.is("in year " + year + ", year(15, 2, 1)", x.year(15, 2, 1), year == 98 ? 2 : 1);
        }
    }

    private static void fromAllAsItIs() {
        due.says("from all as it is");
        MothAudit x = new MothAudit();
        x.saying(0, 5, 65535, 9);
        Due.write(x, "F<");
        due.is("not from the pad, year(2, 1, 1)", x.year(2, 1, 1), 0);
        x.done();
        due.is("done, year(2, 1, 1)", x.year(2, 1, 1), 9);
        Due.write(x, "A");
        due.is("a fault on the pad, year(2, 1, 1)", x.year(2, 1, 1), 9);
        Due.write(x, "F<");
        due.is("an act that can not be on the pad, year(2, 1, 1)", x.year(2, 1, 1), 9);
    }

    private static void nothingIsDone() {
        due.says("Nothing is DONE in fact");
        for (String state : States.ALL) {
            MothAudit asked = States.made(state);
            for (int seed = 0; seed < 20; seed++) {
                asked.year(seed, 99, seed % 3);
            }
            for (int n = 0; n <= 5; n++) {
                asked.darns(n, n % 2);
                asked.blame(n, n % 2);
                asked.cuts(n, 1, 1, 2, 3);
                asked.wear(n - 1);
                asked.liars(n % 4, n % 3);
                asked.tries(n % 4, n % 2);
                asked.chance(n, n, n, n % 2);
                asked.told(n);
            }
            due.that("one that is " + state + ", asked, is as it was",
                    States.answers(asked).equals(States.answers(States.made(state))));
        }
    }
}
