/** Part 3 of the terms and promises 13 to 15: each sentence that names a boundary, by its own words. */
public final class EdgesOfWearTest {
    private static final Due due = new Due("EdgesOfWearTest");
    private static final int NONE = MothAudit.NONE, UNKNOWN = MothAudit.UNKNOWN, OUTSIDE = MothAudit.OUTSIDE;

    public static void main(String[] args) {
        noHoles();
        noneCover();
        thoseSaidInARobe();
        falseOrNot();
        allItsHoles();
        fewest();
        leastAsBits();
        blameNumbers();
        lengthNumbers();
        worthNumbers();
        cutsUnknown();
        wholeCellsSideBySide();
        noneTwice();
        mostTogether();
        occasionNumbers();
        fewestHolesSeen();
        anotherRobeToEach();
        firstSuchWay();
        asThingsAreNow();
        due.end();
    }

    private static void blamed(MothAudit x, int robe, int howMany, int which) {
        due.is("blame(" + robe + ", 0)", x.blame(robe, 0), howMany);
        due.is("blame(" + robe + ", 1)", x.blame(robe, 1), which);
    }

    private static void noHoles() {
        due.says("the fewest SAYINGS .. whose SHAPES together have all its HOLES: there are no HOLES");
        MothAudit x = new MothAudit();
        blamed(x, 0, 0, 0);
        blamed(x, 5, 0, 0);
        x.saying(0, 0, 65535, 9);
        blamed(x, 0, 0, 0);
    }

    private static void noneCover() {
        due.says("how many; which ..; NONE");
        MothAudit x = new MothAudit();
        x.robe(5, 32768, 0);
        blamed(x, 5, NONE, NONE);
        for (int saying = 0; saying <= 9; saying++) {
            x.saying(saying, 5, 32767, 9);
        }
        blamed(x, 5, NONE, NONE);
        x.saying(9, 5, 32768, 0);
        blamed(x, 5, 1, 512);
        x.robe(5, 65535, 0);
        blamed(x, 5, 2, 513);
        x.robe(5, 0, 0);
        blamed(x, 5, 0, 0);
    }

    private static void thoseSaidInARobe() {
        due.says("of those said in a ROBE");
        for (int robe = 0; robe <= 5; robe++) {
            for (int where = 0; where <= 5; where++) {
                for (int saying = 0; saying <= 9; saying++) {
                    MothAudit x = new MothAudit();
                    x.robe(robe, 1, 0);
                    x.saying(saying, where, 1, 1);
                    blamed(x, robe, robe == where ? 1 : NONE, robe == where ? 1 << saying : NONE);
                }
            }
        }
    }

    private static void falseOrNot() {
        due.says("FALSE or not");
        MothAudit x = new MothAudit();
        x.robe(1, 7, 0);
        x.saying(3, 1, 7, 0);
        x.saying(4, 1, 7, 9);
        blamed(x, 1, 1, 8);
        x.saying(3, 1, 7, 9);
        x.saying(4, 1, 7, 0);
        blamed(x, 1, 1, 8);
        x.saying(3, 1, 0, 9);
        blamed(x, 1, 1, 16);
    }

    private static void allItsHoles() {
        due.says("have all its HOLES");
        MothAudit x = new MothAudit();
        x.robe(1, 0b1000000000000001, 0);
        x.saying(0, 1, 0b0111111111111111, 1);
        blamed(x, 1, NONE, NONE);
        x.saying(0, 1, 0b1111111111111110, 1);
        blamed(x, 1, NONE, NONE);
        x.saying(0, 1, 0b1000000000000001, 1);
        blamed(x, 1, 1, 1);
        x.saying(0, 1, 65535, 1);
        blamed(x, 1, 1, 1);
        due.says("whose SHAPES together have all its HOLES: cells of more than one SHAPE");
        x.robe(1, 0b1000000000011111, 0);
        x.saying(0, 1, 0b0000000000001111, 1);
        x.saying(1, 1, 0b1000000000011110, 1);
        blamed(x, 1, 2, 0b11);
    }

    private static void fewest() {
        due.says("the fewest SAYINGS");
        MothAudit x = new MothAudit();
        x.robe(1, 0b1111, 0);
        x.saying(0, 1, 0b0001, 1);
        x.saying(1, 1, 0b0010, 1);
        x.saying(2, 1, 0b0100, 1);
        x.saying(3, 1, 0b1000, 1);
        blamed(x, 1, 4, 0b1111);
        x.saying(8, 1, 0b1100, 1);
        blamed(x, 1, 3, 0b100000011);
        x.saying(9, 1, 0b0011, 1);
        blamed(x, 1, 2, 0b1100000000);
        for (int saying = 0; saying <= 9; saying++) {
            x.saying(saying, 2, 1 << saying, 1);
        }
        x.robe(2, 1023, 0);
        blamed(x, 2, 10, 1023);
        x.robe(2, 511, 0);
        blamed(x, 2, 9, 511);
    }

    private static void leastAsBits() {
        due.says("least as bits of as few");
        MothAudit x = new MothAudit();
        // 0 and 3 are 9 as bits, 1 and 2 are 6.
        x.robe(4, 0b1111, 0);
        x.saying(0, 4, 0b0011, 1);
        x.saying(3, 4, 0b1100, 1);
        blamed(x, 4, 2, 0b1001);
        x.saying(1, 4, 0b0101, 1);
        x.saying(2, 4, 0b1010, 1);
        blamed(x, 4, 2, 0b0110);
        x.saying(9, 4, 0b1111, 1);
        x.saying(8, 4, 0b1111, 1);
        blamed(x, 4, 1, 256);
    }

    private static void blameNumbers() {
        due.says("BLAME: how many (what = 0), which (1) .. UNKNOWN; OUTSIDE");
        MothAudit x = new MothAudit();
        due.is("blame(-1, 0)", x.blame(-1, 0), UNKNOWN);
        due.is("blame(6, 0)", x.blame(6, 0), UNKNOWN);
        due.is("blame(0, -1)", x.blame(0, -1), OUTSIDE);
        due.is("blame(0, 2)", x.blame(0, 2), OUTSIDE);
        x.robe(0, 1, 0);
        due.is("blame(0, 2), of none that cover", x.blame(0, 2), OUTSIDE);
    }

    private static void lengthNumbers() {
        due.says("m, n 1 to 16");
        MothAudit x = new MothAudit();
        due.is("m 1", x.cuts(5, 1, 3, 16, 0), 48);
        due.is("m 16", x.cuts(5, 16, 3, 1, 0), 3);
        due.is("m 0", x.cuts(5, 0, 3, 1, 0), OUTSIDE);
        due.is("m 17", x.cuts(5, 17, 3, 1, 0), OUTSIDE);
        due.is("n 1", x.cuts(5, 16, 0, 1, 3), 48);
        due.is("n 16", x.cuts(5, 1, 0, 16, 3), 3);
        due.is("n 0", x.cuts(5, 1, 0, 0, 3), OUTSIDE);
        due.is("n 17", x.cuts(5, 1, 0, 17, 3), OUTSIDE);
    }

    private static void worthNumbers() {
        due.says("v, w 0 to 99");
        MothAudit x = new MothAudit();
        due.is("v 0", x.cuts(5, 1, 0, 1, 0), 0);
        due.is("v 99", x.cuts(5, 1, 99, 1, 0), 1584);
        due.is("v -1", x.cuts(5, 1, -1, 1, 0), OUTSIDE);
        due.is("v 100", x.cuts(5, 1, 100, 1, 0), OUTSIDE);
        due.is("w 99", x.cuts(5, 1, 0, 1, 99), 1584);
        due.is("w -1", x.cuts(5, 1, 0, 1, -1), OUTSIDE);
        due.is("w 100", x.cuts(5, 1, 0, 1, 100), OUTSIDE);
        due.is("v and w 99", x.cuts(5, 1, 99, 1, 99), 1584);
    }

    private static void cutsUnknown() {
        due.says("CUTS. UNKNOWN");
        MothAudit x = new MothAudit();
        x.robe(0, 65535, 0);
        x.robe(5, 65534, 0);
        due.is("cuts(0, 1, 1, 1, 1)", x.cuts(0, 1, 1, 1, 1), 0);
        due.is("cuts(5, 1, 1, 1, 1)", x.cuts(5, 1, 1, 1, 1), 1);
        due.is("cuts(-1, 1, 1, 1, 1)", x.cuts(-1, 1, 1, 1, 1), UNKNOWN);
        due.is("cuts(6, 1, 1, 1, 1)", x.cuts(6, 1, 1, 1, 1), UNKNOWN);
    }

    private static void wholeCellsSideBySide() {
        due.says("each of WHOLE CELLS side by side");
        MothAudit x = new MothAudit();
        x.robe(5, 0b1000000000000000, 0);
        due.is("15 cells, one of 15", x.cuts(5, 15, 9, 16, 99), 9);
        due.is("15 cells, none of 16", x.cuts(5, 16, 99, 16, 99), 0);
        x.robe(5, 0b0000000000000001, 0);
        due.is("15 cells at the other end, one of 15", x.cuts(5, 16, 99, 15, 9), 9);
        x.robe(5, 0b0000000100000000, 0);
        due.is("8 and 7 cells, one of 8", x.cuts(5, 8, 5, 9, 99), 5);
        due.is("8 and 7 cells, two of 7", x.cuts(5, 7, 5, 9, 99), 10);
        x.robe(5, 0b0111111111111110, 0);
        due.is("the first and the last are not side by side", x.cuts(5, 2, 99, 2, 99), 0);
        due.is("the first and the last", x.cuts(5, 1, 9, 2, 99), 18);
        x.robe(5, 65535, 0);
        due.is("no cell", x.cuts(5, 1, 99, 1, 99), 0);
    }

    private static void noneTwice() {
        due.says("none of them twice");
        MothAudit x = new MothAudit();
        due.is("16 cells, one of 9", x.cuts(5, 9, 10, 9, 10), 10);
        due.is("16 cells, two of 8", x.cuts(5, 8, 10, 9, 10), 20);
        due.is("16 cells, one of 8 and none of 9", x.cuts(5, 8, 10, 9, 15), 20);
        due.is("16 cells, 7 and 9", x.cuts(5, 7, 10, 9, 15), 25);
        x.robe(5, 1, 0);
        due.is("15 cells, 7 and 9 are too many", x.cuts(5, 7, 10, 9, 15), 20);
    }

    private static void mostTogether() {
        due.says("the most that they are worth together");
        MothAudit x = new MothAudit();
        due.is("the dearer of as long", x.cuts(5, 4, 3, 4, 7), 28);
        due.is("the dearer of as long, told first", x.cuts(5, 4, 7, 4, 3), 28);
        due.is("more of the shorter", x.cuts(5, 3, 5, 2, 4), 32);
        due.is("of the longer, and a cell is left", x.cuts(5, 5, 50, 3, 1), 150);
        due.is("five of 3 and no cell over", x.cuts(5, 3, 5, 16, 24), 25);
        due.is("one of 16", x.cuts(5, 3, 5, 16, 26), 26);
        due.is("worth nothing", x.cuts(5, 3, 0, 2, 0), 0);
    }

    private static void worn(MothAudit x, int holes, String robes) {
        due.is("wear(-1)", x.wear(-1), holes);
        for (int occasion = 0; occasion <= 4; occasion++) {
            due.is("wear(" + occasion + ") of " + robes, x.wear(occasion), robes.charAt(occasion) - '0');
        }
    }

    private static MothAudit allSeen() {
        MothAudit x = new MothAudit();
        for (int occasion = 0; occasion <= 4; occasion++) {
            x.occasion(occasion, 65535);
        }
        return x;
    }

    private static void occasionNumbers() {
        due.says("HOLES that are seen (occasion = -1), the ROBE. UNKNOWN");
        MothAudit x = allSeen();
        x.robe(0, 1, 0);
        worn(x, 0, "12345");
        due.is("wear(-2)", x.wear(-2), UNKNOWN);
        due.is("wear(5)", x.wear(5), UNKNOWN);
    }

    private static void fewestHolesSeen() {
        due.says("the fewest HOLES that are seen on all of them together");
        MothAudit x = allSeen();
        worn(x, 0, "01234");
        for (int robe = 0; robe <= 5; robe++) {
            x.robe(robe, 65535, 0);
        }
        worn(x, 80, "01234");
        x.occasion(2, 0);
        worn(x, 64, "01234");
        x.robe(5, 65534, 0);
        worn(x, 63, "01235");
        // On OCCASION 1 all but the last cell are seen, the only one that is a hole of robe 0.
        for (int occasion : new int[] {0, 3, 4}) {
            x.occasion(occasion, 32768);
        }
        x.robe(0, 32768, 0);
        x.occasion(1, 32767);
        worn(x, 1 + 0 + 0 + 1 + 1, "10234");
    }

    private static void anotherRobeToEach() {
        due.says("to each another ROBE is worn");
        MothAudit x = new MothAudit();
        for (int robe = 1; robe <= 5; robe++) {
            x.robe(robe, 1, 0);
        }
        for (int occasion = 0; occasion <= 4; occasion++) {
            x.occasion(occasion, 1);
        }
        worn(x, 4, "01234");
        x.robe(1, 0, 0);
        worn(x, 3, "01234");
        x.robe(0, 1, 0);
        x.robe(1, 1, 0);
        x.robe(5, 0, 0);
        worn(x, 4, "01235");
    }

    private static void firstSuchWay() {
        due.says("in the first such way (that of OCCASION 0 least, then of OCCASION 1, and so on)");
        MothAudit x = new MothAudit();
        worn(x, 0, "01234");
        // Robes 0 and 1 may change places, and 0 is to be worn on OCCASION 0.
        for (int robe = 2; robe <= 5; robe++) {
            x.robe(robe, 65535, 0);
        }
        x.occasion(0, 1);
        x.occasion(1, 1);
        worn(x, 0, "01234");
        x.robe(0, 1, 0);
        x.robe(5, 0, 0);
        worn(x, 0, "15023");
        x.occasion(0, 0);
        worn(x, 0, "01234");
        x.occasion(4, 1);
        worn(x, 0, "01235");
    }

    private static void asThingsAreNow() {
        due.says("(As things are now.)");
        MothAudit x = new MothAudit();
        x.saying(0, 0, 65535, 9);
        x.occasion(0, 65535);
        Due.write(x, "A<*");
        blamed(x, 0, 0, 0);
        due.is("cuts, years on the pad", x.cuts(0, 16, 7, 16, 7), 7);
        worn(x, 0, "01234");
        x.done();
        blamed(x, 0, 1, 1);
        due.is("cuts, years done", x.cuts(0, 16, 7, 16, 7), 0);
        due.is("cuts, years done", x.cuts(0, 7, 7, 16, 7), 7);
        worn(x, 0, "10234");
    }
}
