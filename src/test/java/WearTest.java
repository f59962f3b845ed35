/** Promises 13 to 15: blame, lengths, what to wear. */
public final class WearTest {
    private static final Due due = new Due("WearTest");
    private static final int NONE = MothAudit.NONE;

    public static void main(String[] args) {
        blame();
        leastAsBits();
        shapesThatOverlap();
        wrongBlame();
        cuts();
        wrongCuts();
        wear();
        wearFirstWay();
        wrongWear();
        due.end();
    }

    private static void blame() {
        MothAudit x = new MothAudit();
        due.is("promise 13: no holes", x.blame(0, 0), 0);
        due.is("promise 13: no holes", x.blame(0, 1), 0);
        due.is("promise 13: no holes, nothing said", x.blame(5, 0), 0);
        due.is("promise 13: no holes, nothing said", x.blame(5, 1), 0);
        x.robe(5, 0b10110, 0);
        due.is("promise 13: nothing said", x.blame(5, 0), NONE);
        due.is("promise 13: nothing said", x.blame(5, 1), NONE);
        x.saying(0, 4, 65535, 9);
        due.is("promise 13: said elsewhere", x.blame(5, 0), NONE);
        x.saying(1, 5, 0b00010, 0);
        x.saying(2, 5, 0b00100, 0);
        x.saying(3, 5, 0b01000, 9);
        due.is("promise 13: not all", x.blame(5, 0), NONE);
        x.saying(4, 5, 0b10000, 0);
        due.is("promise 13: three, false or not", x.blame(5, 0), 3);
        due.is("promise 13: which", x.blame(5, 1), 0b10110);
        x.saying(9, 5, 0b10010, 0);
        due.is("promise 13: two", x.blame(5, 0), 2);
        due.is("promise 13: which", x.blame(5, 1), 0b1000000100);
        x.saying(8, 5, 65535, 0);
        due.is("promise 13: one, of more than the holes", x.blame(5, 0), 1);
        due.is("promise 13: which", x.blame(5, 1), 256);
        x.robe(5, 65535, 3);
        due.is("promise 13: bare", x.blame(5, 1), 256);
    }

    private static void leastAsBits() {
        MothAudit x = new MothAudit();
        x.robe(0, 0b1111, 0);
        for (int saying = 0; saying < 10; saying++) {
            x.saying(saying, 0, saying < 5 ? 0b1100 : 0b0011, 1);
        }
        due.is("promise 13: least of as few", x.blame(0, 1), 1 | 32);
        x.saying(0, 0, 0, 1);
        due.is("promise 13: least of as few", x.blame(0, 1), 2 | 32);
        x.saying(9, 0, 0b1000, 1);
        x.saying(8, 0, 0b0100, 1);
        due.is("promise 13: two", x.blame(0, 0), 2);
        for (int saying = 0; saying < 10; saying++) {
            x.saying(saying, 0, 1 << saying, 0);
        }
        x.robe(0, 1023, 0);
        due.is("promise 13: all ten", x.blame(0, 0), 10);
        due.is("promise 13: all ten", x.blame(0, 1), 1023);
    }

    private static void shapesThatOverlap() {
        MothAudit x = new MothAudit();
        x.robe(2, 0b111111, 0);
        x.saying(3, 2, 0b001111, 0);
        x.saying(6, 2, 0b111100, 0);
        due.is("promise 13: cells of both", x.blame(2, 0), 2);
        due.is("promise 13: cells of both", x.blame(2, 1), 8 | 64);
        x.robe(2, 0b001100, 0);
        due.is("promise 13: either", x.blame(2, 1), 8);
    }

    private static void wrongBlame() {
        MothAudit x = new MothAudit();
        int[] wrong = {-1, 6, Integer.MIN_VALUE, Integer.MAX_VALUE};
        for (int bad : wrong) {
            due.is("promise 13: unknown", x.blame(bad, 0), MothAudit.UNKNOWN);
            due.is("promise 13: unknown ahead of outside", x.blame(bad, 2), MothAudit.UNKNOWN);
            due.is("promise 13: outside", x.blame(0, bad), MothAudit.OUTSIDE);
        }
        due.is("promise 13: outside", x.blame(5, 2), MothAudit.OUTSIDE);
    }

    private static void cuts() {
        MothAudit x = new MothAudit();
        due.is("promise 14: sixteen ones", x.cuts(5, 1, 99, 16, 99), 16 * 99);
        due.is("promise 14: one of sixteen", x.cuts(5, 16, 99, 15, 98), 99);
        due.is("promise 14: nothing worth", x.cuts(5, 1, 0, 1, 0), 0);
        due.is("promise 14: the dearer of one length", x.cuts(5, 4, 3, 4, 7), 28);
        due.is("promise 14: both lengths", x.cuts(5, 5, 50, 6, 61), 161);
        x.robe(5, 0b0000100000010000, 0);
        due.is("promise 14: rows of 4, 6, 4", x.cuts(5, 4, 10, 3, 7), 10 + 14 + 10);
        due.is("promise 14: none long enough", x.cuts(5, 7, 99, 8, 99), 0);
        due.is("promise 14: just long enough", x.cuts(5, 7, 99, 6, 42), 42);
        x.robe(5, 0b0101010101010101, 0);
        due.is("promise 14: single cells", x.cuts(5, 1, 3, 2, 99), 24);
        x.robe(5, 0b0111111111111111, 0);
        due.is("promise 14: the last cell", x.cuts(5, 1, 5, 2, 50), 5);
        x.robe(5, 0b1111111111111110, 0);
        due.is("promise 14: the first cell", x.cuts(5, 2, 50, 1, 6), 6);
        x.robe(5, 65535, 0);
        due.is("promise 14: bare", x.cuts(5, 1, 99, 1, 99), 0);
    }

    private static void wrongCuts() {
        MothAudit x = new MothAudit();
        int[] wrong = {-1, Integer.MIN_VALUE, Integer.MAX_VALUE};
        for (int bad : wrong) {
            due.is("promise 14: unknown", x.cuts(bad, 1, 1, 1, 1), MothAudit.UNKNOWN);
            due.is("promise 14: unknown ahead of outside", x.cuts(bad, bad, bad, bad, bad), MothAudit.UNKNOWN);
            due.is("promise 14: m", x.cuts(0, bad, 1, 1, 1), MothAudit.OUTSIDE);
            due.is("promise 14: v", x.cuts(0, 1, bad, 1, 1), MothAudit.OUTSIDE);
            due.is("promise 14: n", x.cuts(0, 1, 1, bad, 1), MothAudit.OUTSIDE);
            due.is("promise 14: w", x.cuts(0, 1, 1, 1, bad), MothAudit.OUTSIDE);
        }
        due.is("promise 14: no robe 6", x.cuts(6, 1, 1, 1, 1), MothAudit.UNKNOWN);
        due.is("promise 14: m 0", x.cuts(0, 0, 1, 1, 1), MothAudit.OUTSIDE);
        due.is("promise 14: m 17", x.cuts(0, 17, 1, 1, 1), MothAudit.OUTSIDE);
        due.is("promise 14: v 100", x.cuts(0, 1, 100, 1, 1), MothAudit.OUTSIDE);
        due.is("promise 14: n 0", x.cuts(0, 1, 1, 0, 1), MothAudit.OUTSIDE);
        due.is("promise 14: n 17", x.cuts(0, 1, 1, 17, 1), MothAudit.OUTSIDE);
        due.is("promise 14: w 100", x.cuts(0, 1, 1, 1, 100), MothAudit.OUTSIDE);
    }

    private static void wear() {
        MothAudit x = new MothAudit();
        worn(x, 0, "01234");
        for (int robe = 0; robe < 6; robe++) {
            x.robe(robe, 1 << robe, 0);
        }
        for (int occasion = 0; occasion < 5; occasion++) {
            x.occasion(occasion, 1 << occasion);
        }
        worn(x, 0, "10325");
        for (int occasion = 0; occasion < 5; occasion++) {
            x.occasion(occasion, 63 & ~(1 << 4 - occasion));
        }
        worn(x, 0, "43210");
        for (int occasion = 0; occasion < 5; occasion++) {
            x.occasion(occasion, 65535);
        }
        worn(x, 5, "01234");
        for (int robe = 0; robe < 6; robe++) {
            x.robe(robe, 65535 >> robe, 0);
        }
        worn(x, 15 + 14 + 13 + 12 + 11, "12345");
        Due.write(x, "F<");
        x.done();
        worn(x, 15 + 14 + 13 + 12 + 11, "12345");
    }

    private static void wearFirstWay() {
        MothAudit x = new MothAudit();
        // Robe 0 shows one hole at each; robe 5 shows none, but at the last occasion two.
        for (int robe = 0; robe < 5; robe++) {
            x.robe(robe, 1, 0);
        }
        x.robe(5, 6, 0);
        for (int occasion = 0; occasion < 4; occasion++) {
            x.occasion(occasion, 1);
        }
        x.occasion(4, 7);
        worn(x, 4, "01253");
        x.robe(2, 0, 0);
        worn(x, 3, "01253");
        x.occasion(4, 0);
        worn(x, 2, "01253");
    }

    private static void worn(MothAudit x, int holes, String robes) {
        due.is("promise 15: holes", x.wear(-1), holes);
        for (int occasion = 0; occasion < 5; occasion++) {
            due.is("promise 15: " + robes + " at " + occasion, x.wear(occasion), robes.charAt(occasion) - '0');
        }
    }

    private static void wrongWear() {
        MothAudit x = new MothAudit();
        int[] wrong = {-2, 5, 6, Integer.MIN_VALUE, Integer.MAX_VALUE};
        for (int bad : wrong) {
            due.is("promise 15: unknown", x.wear(bad), MothAudit.UNKNOWN);
        }
    }
}
