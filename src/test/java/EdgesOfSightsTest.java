/** Part 4 of the terms, SIGHTS to TRY, and promises 16 to 19: each sentence that names a boundary, by its own words. */
public final class EdgesOfSightsTest {
    private static final Due due = new Due("EdgesOfSightsTest");
    private static final int NONE = MothAudit.NONE, OUTSIDE = MothAudit.OUTSIDE, FULL = MothAudit.FULL;

    public static void main(String[] args) {
        eightAtMost();
        someSayings();
        bitten();
        notBitten();
        forgotten();
        noSights();
        setsOfSayings();
        atMost();
        allTheLies();
        allSightsAreSo();
        eighthSight();
        inSomeInAll();
        noSet();
        numbersOfLiars();
        numbersOfTries();
        fewestAtTheMost();
        theLeast();
        firstAndLastSaying();
        sightsAreNotSayings();
        due.end();
    }

    private static void eightAtMost() {
        due.says("SIGHTS, 8 at most");
        MothAudit x = new MothAudit();
        for (int n = 1; n <= 8; n++) {
            due.is("sight " + n, x.seen(1023, true), n);
        }
        due.is("sight 9", x.seen(1023, true), FULL);
        due.is("sight 9, not bitten", x.seen(1, false), FULL);
        due.is("told(3)", x.told(3), 8);
        due.is("sets, not weighed by sight 9", x.liars(1, 0), 10);
    }

    private static void someSayings() {
        due.says("OUTSIDE: bits 1 to 1023");
        MothAudit x = new MothAudit();
        due.is("seen(0, true)", x.seen(0, true), OUTSIDE);
        due.is("seen(0, false)", x.seen(0, false), OUTSIDE);
        due.is("seen(1024, true)", x.seen(1024, true), OUTSIDE);
        due.is("seen(1024, false)", x.seen(1024, false), OUTSIDE);
        due.is("seen(-1, true)", x.seen(-1, true), OUTSIDE);
        due.is("told(3)", x.told(3), 0);
        due.is("seen(1, true)", x.seen(1, true), 1);
        due.is("seen(1023, true)", x.seen(1023, true), 2);
        due.is("seen(512, false)", x.seen(512, false), 3);
        due.is("told(3)", x.told(3), 3);
    }

    private static void lie(MothAudit x, int m, int sets, int some, int all) {
        due.is("liars(" + m + ", 0)", x.liars(m, 0), sets);
        due.is("liars(" + m + ", 1)", x.liars(m, 1), some);
        due.is("liars(" + m + ", 2)", x.liars(m, 2), all);
    }

    private static void bitten() {
        due.says("were bitten (one of them at least is a lie)");
        MothAudit x = new MothAudit();
        x.seen(0b11, true);
        lie(x, 0, 0, 0, 0);
        lie(x, 1, 2, 0b11, 0);
        // Of two: 0 and 1, or one of them and one of the eight others.
        lie(x, 2, 2 + 1 + 16, 1023, 0);
    }

    private static void notBitten() {
        due.says("or were not (none is)");
        MothAudit x = new MothAudit();
        x.seen(0b11, false);
        lie(x, 0, 1, 0, 0);
        lie(x, 1, 9, 1020, 0);
        x.seen(1020, false);
        lie(x, 3, 1, 0, 0);
    }

    private static void forgotten() {
        due.says("SIGHTS go: how many there were");
        MothAudit x = new MothAudit();
        due.is("of none", x.forget(), 0);
        x.seen(1, false);
        due.is("of one", x.forget(), 1);
        due.is("again", x.forget(), 0);
        lie(x, 1, 11, 1023, 0);
        for (int n = 1; n <= 8; n++) {
            x.seen(1, true);
        }
        due.is("of eight", x.forget(), 8);
        due.is("told(3)", x.told(3), 0);
        lie(x, 0, 1, 0, 0);
        due.is("the first again", x.seen(1, false), 1);
        lie(x, 1, 10, 1022, 0);
    }

    private static void noSights() {
        due.says("LIARS: sets .. by which all SIGHTS are so: there are no SIGHTS");
        MothAudit x = new MothAudit();
        lie(x, 0, 1, 0, 0);
        lie(x, 1, 1 + 10, 1023, 0);
        lie(x, 2, 1 + 10 + 45, 1023, 0);
        lie(x, 3, 1 + 10 + 45 + 120, 1023, 0);
    }

    private static void setsOfSayings() {
        due.says("sets of m SAYINGS (0 to 3) at most");
        MothAudit x = new MothAudit();
        due.is("liars(-1, 0)", x.liars(-1, 0), OUTSIDE);
        due.is("liars(0, 0)", x.liars(0, 0), 1);
        due.is("liars(3, 0)", x.liars(3, 0), 176);
        due.is("liars(4, 0)", x.liars(4, 0), OUTSIDE);
    }

    private static void atMost() {
        due.says("m SAYINGS .. at most");
        MothAudit x = new MothAudit();
        x.seen(1, true);
        x.seen(2, true);
        lie(x, 1, 0, 0, 0);
        lie(x, 2, 1, 3, 3);
        lie(x, 3, 9, 1023, 3);
        x.seen(512, true);
        lie(x, 2, 0, 0, 0);
        lie(x, 3, 1, 515, 515);
        x.seen(256, true);
        lie(x, 3, 0, 0, 0);
    }

    private static void allTheLies() {
        due.says("which are all the lies there are");
        MothAudit x = new MothAudit();
        x.seen(1, true);
        x.seen(1022, false);
        lie(x, 0, 0, 0, 0);
        lie(x, 1, 1, 1, 1);
        lie(x, 3, 1, 1, 1);
    }

    private static void allSightsAreSo() {
        due.says("by which all SIGHTS are so");
        MothAudit x = new MothAudit();
        x.seen(0b0110, true);
        lie(x, 1, 2, 0b0110, 0);
        x.seen(0b0011, true);
        lie(x, 1, 1, 0b0010, 0b0010);
        x.seen(0b1010, false);
        lie(x, 1, 0, 0, 0);
        // Neither 1 nor 3 is one, so 2 and 0 are.
        lie(x, 2, 1, 0b0101, 0b0101);
    }

    private static void eighthSight() {
        due.says("by which all SIGHTS are so: the first, the eighth");
        MothAudit x = new MothAudit();
        for (int n = 1; n <= 7; n++) {
            x.seen(1023, true);
        }
        x.seen(512, true);
        lie(x, 1, 1, 512, 512);
        x.forget();
        x.seen(512, false);
        for (int n = 2; n <= 8; n++) {
            x.seen(1023, true);
        }
        lie(x, 1, 9, 511, 0);
        x.forget();
        for (int n = 1; n <= 7; n++) {
            x.seen(1023, true);
        }
        x.seen(510, false);
        lie(x, 1, 2, 513, 0);
    }

    private static void inSomeInAll() {
        due.says("SAYINGS that are in some; SAYINGS that are in all of them, as bits");
        MothAudit x = new MothAudit();
        x.seen(0b1000000001, true);
        lie(x, 1, 2, 0b1000000001, 0);
        x.seen(0b1000000000, true);
        lie(x, 1, 1, 0b1000000000, 0b1000000000);
        lie(x, 2, 10, 1023, 0b1000000000);
        x.seen(0b0111111110, false);
        lie(x, 2, 2, 0b1000000001, 0b1000000000);
    }

    private static void noSet() {
        due.says("(0: there is no set)");
        MothAudit x = new MothAudit();
        x.seen(1, true);
        lie(x, 0, 0, 0, 0);
        x.seen(1, false);
        for (int m = 0; m <= 3; m++) {
            lie(x, m, 0, 0, 0);
        }
        due.says("NONE: there is no set");
        for (int m = 0; m <= 3; m++) {
            due.is("tries(" + m + ", 0)", x.tries(m, 0), NONE);
            due.is("tries(" + m + ", 1)", x.tries(m, 1), NONE);
        }
        due.is("tries(3, 2)", x.tries(3, 2), OUTSIDE);
        due.is("tries(4, 0)", x.tries(4, 0), OUTSIDE);
    }

    private static void numbersOfLiars() {
        due.says("how many sets (what = 0), in some (1), in all (2). OUTSIDE");
        MothAudit x = new MothAudit();
        x.seen(3, true);
        x.seen(2, true);
        due.is("liars(1, -1)", x.liars(1, -1), OUTSIDE);
        lie(x, 1, 1, 2, 2);
        due.is("liars(1, 3)", x.liars(1, 3), OUTSIDE);
    }

    private static void tried(MothAudit x, int m, int saying, int howMany) {
        due.is("tries(" + m + ", 0)", x.tries(m, 0), saying);
        due.is("tries(" + m + ", 1)", x.tries(m, 1), howMany);
    }

    private static void numbersOfTries() {
        due.says("TRY: the SAYING (what = 0), how many (1) .. OUTSIDE");
        MothAudit x = new MothAudit();
        due.is("tries(-1, 0)", x.tries(-1, 0), OUTSIDE);
        due.is("tries(4, 0)", x.tries(4, 0), OUTSIDE);
        due.is("tries(0, -1)", x.tries(0, -1), OUTSIDE);
        due.is("tries(0, 2)", x.tries(0, 2), OUTSIDE);
        tried(x, 0, 0, 1);
        tried(x, 1, 0, 10);
        tried(x, 2, 0, 46);
        // Of 176 sets 46 have a saying, 130 have not.
        tried(x, 3, 0, 130);
    }

    private static void fewestAtTheMost() {
        due.says("so that, bitten or not, fewest sets are left at the most");
        MothAudit x = new MothAudit();
        // Ten sets of one; with 9 known, {9} and {9, any other}.
        x.seen(512, true);
        tried(x, 2, 0, 9);
        // {5, 6}, {5, 7}, {5, 8} and none else: to try 5 leaves three, 6 leaves two.
        x.forget();
        x.seen(32, true);
        x.seen(448, true);
        x.seen(543, false);
        tried(x, 2, 6, 2);
        // {6}, {7}, {8}, {9} and, if two are let be, their six pairs: each is in four of ten.
        x.forget();
        x.seen(960, true);
        x.seen(63, false);
        tried(x, 1, 6, 3);
        tried(x, 2, 6, 6);
        // More sets have 0 than have not: bitten, sixteen are left.
        x.forget();
        x.seen(3, true);
        tried(x, 2, 0, 10);
    }

    private static void theLeast() {
        due.says("the least; how many");
        MothAudit x = new MothAudit();
        x.seen(0b1100000000, true);
        tried(x, 1, 8, 1);
        x.seen(0b0100000000, false);
        // One set is left, whichever is tried.
        tried(x, 1, 0, 1);
        for (int saying = 0; saying <= 8; saying++) {
            x = new MothAudit();
            x.seen(1 << saying | 512, true);
            x.seen(1023 - (1 << saying) - 512, false);
            tried(x, 1, saying, 1);
        }
    }

    private static void firstAndLastSaying() {
        due.says("the SAYING to put to moths alone next: 0, 9");
        MothAudit x = new MothAudit();
        // {8, 0}, {8, 9} and {8}, {8, 9}: where 0 is no lie, 9 alone tells them apart.
        x.seen(0b0100000000, true);
        x.seen(0b0011111111, false);
        due.is("sets", x.liars(2, 0), 2);
        tried(x, 2, 9, 1);
        x.forget();
        x.seen(0b0100000000, true);
        x.seen(0b1011111110, false);
        due.is("sets", x.liars(2, 0), 2);
        tried(x, 2, 0, 1);
    }

    private static void sightsAreNotSayings() {
        due.says("some SAYINGS were put to moths together: told, not done");
        MothAudit x = new MothAudit();
        x.saying(0, 0, 65535, 9);
        x.seen(1, false);
        x.seen(2, true);
        due.is("told(4)", x.told(4), 1);
        due.is("told(10)", x.told(10), 0);
        lie(x, 1, 1, 2, 2);
        due.is("tries(1, 0)", x.tries(1, 0), 0);
        Due.live(x, "0");
        lie(x, 1, 1, 2, 2);
        due.is("told(3)", x.told(3), 2);
    }
}
