/** Promises 23 to 25: images, and what is told. */
public final class ImagesTest {
    private static final Due due = new Due("ImagesTest");

    public static void main(String[] args) {
        allIsKept();
        twoImages();
        wrongImages();
        wrongTold();
        due.end();
    }

    private static MothAudit some() {
        MothAudit x = new MothAudit();
        x.robe(1, 5, 7);
        x.robe(4, 9, 2);
        x.saying(9, 4, 77, 3);
        x.saying(2, 1, 78, 1);
        x.occasion(3, 4097);
        x.seen(3, true);
        x.seen(12, false);
        Due.write(x, "E<F+.2");
        x.done();
        return x;
    }

    private static void tellsSome(MothAudit x) {
        due.is("promise 24: year", x.told(1), 1);
        due.is("promise 24: press", x.told(2), 16);
        due.is("promise 24: sights", x.told(3), 2);
        due.is("promise 24: false ones", x.told(4), 512);
        due.is("promise 24: holes", x.told(20), 5);
        due.is("promise 24: camphor", x.told(21), 6);
        due.is("promise 24: holes", x.told(50), 9);
        due.is("promise 24: camphor", x.told(51), 1);
        due.is("promise 24: camphor", x.told(61), 0);
        due.is("promise 24: where", x.told(190), 4);
        due.is("promise 24: shape", x.told(191), 77);
        due.is("promise 24: how false", x.told(192), 3);
        due.is("promise 24: owned up to", x.told(122), 0);
        due.is("promise 24: shape", x.told(121), 78);
        due.is("promise 24: occasion", x.told(203), 4097);
        due.is("promise 24: liars", x.liars(1, 1), 3);
    }

    private static void allIsKept() {
        MothAudit x = some();
        tellsSome(x);
        due.is("promise 23: kept", x.image(1), 1);
        tellsSome(x);
        x.robe(1, 0, 0);
        x.robe(4, 1, 1);
        x.saying(9, 0, 0, 0);
        x.saying(2, 0, 0, 9);
        x.occasion(3, 0);
        x.forget();
        x.seen(1020, true);
        x.seen(1020, true);
        x.seen(1020, true);
        Due.write(x, "A<..F+");
        x.done();
        Due.write(x, "C+C");
        due.is("promise 24: restored", x.restore(1), 1);
        tellsSome(x);
        due.is("promise 24: the pad stays", x.told(0), 3);
        due.is("promise 24: its fault too", x.fault(), 3);
        x.robe(1, 0, 0);
        x.wipe();
        due.is("promise 24: restored again", x.restore(1), 1);
        tellsSome(x);
        due.is("promise 24: the pad stays empty", x.told(0), 0);
        Due.write(x, "*");
        due.is("promise 24: the year goes on", x.done(), 1);
        due.is("promise 24: moths eat there", x.told(50), 9 | 4 | 64);
        x.restore(1);
        tellsSome(x);
    }

    private static void twoImages() {
        MothAudit x = new MothAudit();
        due.is("promise 24: not kept", x.restore(0), MothAudit.STATE);
        due.is("promise 24: not kept", x.restore(1), MothAudit.STATE);
        x.robe(0, 1, 1);
        due.is("promise 23: kept", x.image(0), 1);
        due.is("promise 24: the other not kept", x.restore(1), MothAudit.STATE);
        due.is("promise 24: unchanged", x.told(10), 1);
        x.robe(0, 2, 2);
        due.is("promise 23: kept", x.image(1), 1);
        x.robe(0, 3, 3);
        due.is("promise 24: the first", x.restore(0), 1);
        due.is("promise 24: the first", x.told(10), 1);
        due.is("promise 24: the second stays", x.restore(1), 1);
        due.is("promise 24: the second", x.told(10), 2);
        x.robe(0, 4, 4);
        due.is("promise 23: kept in its place", x.image(0), 1);
        x.restore(1);
        due.is("promise 24: the second", x.told(10), 2);
        x.restore(0);
        due.is("promise 24: the newer", x.told(10), 4);
    }

    private static void wrongImages() {
        MothAudit x = new MothAudit();
        int[] wrong = {-1, 2, Integer.MIN_VALUE, Integer.MAX_VALUE};
        for (int bad : wrong) {
            due.is("promise 23: outside", x.image(bad), MothAudit.OUTSIDE);
            due.is("promise 24: outside", x.restore(bad), MothAudit.OUTSIDE);
        }
    }

    private static void wrongTold() {
        MothAudit x = new MothAudit();
        for (int what = -300; what <= 400; what++) {
            if (what % 100 == 0) {
                x = new MothAudit();
            }
            boolean all = 0 <= what && what <= 4;
            boolean robe = 10 <= what && what < 70 && what % 10 < 2;
            boolean saying = 100 <= what && what < 200 && what % 10 < 3;
            boolean occasion = 200 <= what && what < 205;
            due.is("promise 25: told(" + what + ")", x.told(what),
                    all || robe || saying || occasion ? 0 : MothAudit.OUTSIDE);
        }
        x = new MothAudit();
        due.is("promise 25: least", x.told(Integer.MIN_VALUE), MothAudit.OUTSIDE);
        due.is("promise 25: greatest", x.told(Integer.MAX_VALUE), MothAudit.OUTSIDE);
        Due.write(x, "A<F<..");
        due.is("promise 25: signs", x.told(0), 6);
        x.done();
        due.is("promise 25: press", x.told(2), 33);
        due.is("promise 25: year", x.told(1), 2);
    }
}
