/** Promises 1 to 4: a new object, robes, sayings, occasions. */
public final class RobesTest {
    private static final Due due = new Due("RobesTest");

    public static void main(String[] args) {
        newObject();
        robes();
        wrongRobes();
        robeLeavesPress();
        sayings();
        wrongSayings();
        occasions();
        due.end();
    }

    private static void newObject() {
        MothAudit x = new MothAudit();
        for (int what = 0; what <= 4; what++) {
            due.is("promise 1: told(" + what + ")", x.told(what), 0);
        }
        for (int robe = 0; robe < 6; robe++) {
            due.is("promise 1: holes of " + robe, x.told(10 * (1 + robe)), 0);
            due.is("promise 1: camphor of " + robe, x.told(10 * (1 + robe) + 1), 0);
        }
        for (int saying = 0; saying < 10; saying++) {
            for (int item = 0; item < 3; item++) {
                due.is("promise 1: saying " + saying + ", " + item, x.told(100 + 10 * saying + item), 0);
            }
        }
        for (int occasion = 0; occasion < 5; occasion++) {
            due.is("promise 1: occasion " + occasion, x.told(200 + occasion), 0);
        }
        due.is("promise 1: no image 0", x.restore(0), MothAudit.STATE);
        due.is("promise 1: no image 1", x.restore(1), MothAudit.STATE);
        due.is("promise 1: no fault", x.fault(), MothAudit.NONE);
        due.is("promise 1: no holes", x.darns(0, 0), 0);
    }

    private static void robes() {
        MothAudit x = new MothAudit();
        for (int robe = 0; robe < 6; robe++) {
            due.is("promise 2: first", x.robe(robe, 65535 - robe, robe), 0);
        }
        for (int robe = 0; robe < 6; robe++) {
            due.is("promise 2: holes", x.told(10 * (1 + robe)), 65535 - robe);
            due.is("promise 2: camphor", x.told(10 * (1 + robe) + 1), robe);
            due.is("promise 2: again", x.robe(robe, 0, 9), 65535 - robe);
            due.is("promise 2: camphor 9", x.told(10 * (1 + robe) + 1), 9);
            due.is("promise 2: whole", x.told(10 * (1 + robe)), 0);
        }
    }

    private static void wrongRobes() {
        MothAudit x = new MothAudit();
        x.robe(5, 77, 3);
        int[] noRobe = {-1, 6, 7, 100, Integer.MIN_VALUE, Integer.MAX_VALUE};
        for (int robe : noRobe) {
            due.is("promise 2: unknown", x.robe(robe, 0, 0), MothAudit.UNKNOWN);
            due.is("promise 2: unknown ahead of outside", x.robe(robe, -1, 10), MothAudit.UNKNOWN);
        }
        int[] noHoles = {-1, 65536, Integer.MIN_VALUE, Integer.MAX_VALUE};
        for (int holes : noHoles) {
            due.is("promise 2: holes outside", x.robe(5, holes, 0), MothAudit.OUTSIDE);
        }
        int[] noCamphor = {-1, 10, Integer.MIN_VALUE, Integer.MAX_VALUE};
        for (int camphor : noCamphor) {
            due.is("promise 2: camphor outside", x.robe(5, 0, camphor), MothAudit.OUTSIDE);
        }
        due.is("promise 2: unchanged holes", x.told(60), 77);
        due.is("promise 2: unchanged camphor", x.told(61), 3);
    }

    private static void robeLeavesPress() {
        MothAudit x = new MothAudit();
        Due.write(x, "A<C<F<");
        due.is("promise 2: laid", x.done(), 3);
        due.is("promise 2: press", x.told(2), 1 | 4 | 32);
        due.is("promise 2: refused", x.robe(2, 0, 10), MothAudit.OUTSIDE);
        due.is("promise 2: refused changes nothing", x.told(2), 1 | 4 | 32);
        due.is("promise 2: set", x.robe(2, 1, 0), 0);
        due.is("promise 2: does not lie there then", x.told(2), 1 | 32);
        due.is("promise 2: set", x.robe(1, 1, 0), 0);
        due.is("promise 2: was not there", x.told(2), 1 | 32);
    }

    private static void sayings() {
        MothAudit x = new MothAudit();
        for (int saying = 0; saying < 10; saying++) {
            due.is("promise 3: first", x.saying(saying, saying % 6, 65535 - saying, 9 - saying), 0);
        }
        due.is("promise 3: false ones", x.told(4), 511);
        for (int saying = 0; saying < 10; saying++) {
            due.is("promise 3: where", x.told(100 + 10 * saying), saying % 6);
            due.is("promise 3: shape", x.told(101 + 10 * saying), 65535 - saying);
            due.is("promise 3: how false", x.told(102 + 10 * saying), 9 - saying);
            due.is("promise 3: again", x.saying(saying, 5, 0, 9), 9 - saying);
            due.is("promise 3: where then", x.told(100 + 10 * saying), 5);
            due.is("promise 3: shape then", x.told(101 + 10 * saying), 0);
            due.is("promise 3: how false then", x.told(102 + 10 * saying), 9);
        }
        due.is("promise 3: all false", x.told(4), 1023);
        due.is("promise 3: true again", x.saying(9, 0, 1, 0), 9);
        due.is("promise 3: all but one", x.told(4), 511);
    }

    private static void wrongSayings() {
        MothAudit x = new MothAudit();
        x.saying(4, 2, 99, 7);
        int[] wrong = {-1, Integer.MIN_VALUE, Integer.MAX_VALUE};
        for (int bad : wrong) {
            due.is("promise 3: unknown saying", x.saying(bad, 0, 0, 0), MothAudit.UNKNOWN);
            due.is("promise 3: unknown robe", x.saying(4, bad, 0, 0), MothAudit.UNKNOWN);
            due.is("promise 3: robe ahead of shape", x.saying(4, bad, bad, bad), MothAudit.UNKNOWN);
            due.is("promise 3: shape outside", x.saying(4, 0, bad, 0), MothAudit.OUTSIDE);
            due.is("promise 3: falsehood outside", x.saying(4, 0, 0, bad), MothAudit.OUTSIDE);
        }
        due.is("promise 3: no saying 10", x.saying(10, 0, 0, 0), MothAudit.UNKNOWN);
        due.is("promise 3: no robe 6", x.saying(4, 6, 0, 0), MothAudit.UNKNOWN);
        due.is("promise 3: no robe 6, shape outside", x.saying(4, 6, 65536, 10), MothAudit.UNKNOWN);
        due.is("promise 3: shape 65536", x.saying(4, 5, 65536, 0), MothAudit.OUTSIDE);
        due.is("promise 3: false by 10", x.saying(4, 5, 65535, 10), MothAudit.OUTSIDE);
        due.is("promise 3: where, unchanged", x.told(140), 2);
        due.is("promise 3: shape, unchanged", x.told(141), 99);
        due.is("promise 3: how false, unchanged", x.told(142), 7);
    }

    private static void occasions() {
        MothAudit x = new MothAudit();
        for (int occasion = 0; occasion < 5; occasion++) {
            due.is("promise 4: first", x.occasion(occasion, 65535 - occasion), 0);
        }
        for (int occasion = 0; occasion < 5; occasion++) {
            due.is("promise 4: cells", x.told(200 + occasion), 65535 - occasion);
            due.is("promise 4: again", x.occasion(occasion, 0), 65535 - occasion);
            due.is("promise 4: none", x.told(200 + occasion), 0);
        }
        x.occasion(3, 12);
        int[] wrong = {-1, 5, Integer.MIN_VALUE, Integer.MAX_VALUE};
        for (int bad : wrong) {
            due.is("promise 4: unknown", x.occasion(bad, 0), MothAudit.UNKNOWN);
            due.is("promise 4: unknown ahead of outside", x.occasion(bad, -1), MothAudit.UNKNOWN);
        }
        due.is("promise 4: outside", x.occasion(3, -1), MothAudit.OUTSIDE);
        due.is("promise 4: outside", x.occasion(3, 65536), MothAudit.OUTSIDE);
        due.is("promise 4: unchanged", x.told(203), 12);
    }
}
