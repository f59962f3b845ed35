import java.util.function.Consumer;

/** Promises 23 to 25 and the 512 calls: each sentence that names a boundary, by its own words. */
public final class EdgesOfImagesTest {
    private static final Due due = new Due("EdgesOfImagesTest");
    private static final int OUTSIDE = MothAudit.OUTSIDE, STATE = MothAudit.STATE;

    public static void main(String[] args) {
        imageNumbers();
        restoreNumbers();
        notKept();
        notKeptOfTheOther();
        imageOfANewObject();
        keptAgain();
        asItWasWhenItWasKept();
        allButThePad();
        imagesStay();
        toldNumbers();
        toldOfAll();
        toldOfRobes();
        toldOfSayings();
        toldOfOccasions();
        calls();
        due.end();
    }

    private static void imageNumbers() {
        due.says("kept in an IMAGE (0, 1): 1. OUTSIDE");
        MothAudit x = new MothAudit();
        due.is("image(-1)", x.image(-1), OUTSIDE);
        due.is("image(2)", x.image(2), OUTSIDE);
        due.is("restore(0), when these were refused", x.restore(0), STATE);
        due.is("restore(1), when these were refused", x.restore(1), STATE);
        due.is("image(0)", x.image(0), 1);
        due.is("image(1)", x.image(1), 1);
    }

    private static void restoreNumbers() {
        due.says("It is as it was when it was kept: 1. OUTSIDE");
        MothAudit x = new MothAudit();
        due.is("restore(-1), nothing kept", x.restore(-1), OUTSIDE);
        due.is("restore(2), nothing kept", x.restore(2), OUTSIDE);
        x.image(0);
        x.image(1);
        due.is("restore(-1)", x.restore(-1), OUTSIDE);
        due.is("restore(0)", x.restore(0), 1);
        due.is("restore(1)", x.restore(1), 1);
        due.is("restore(2)", x.restore(2), OUTSIDE);
    }

    private static void notKept() {
        due.says("STATE: it was not");
        MothAudit x = new MothAudit();
        x.robe(0, 7, 7);
        due.is("restore(0)", x.restore(0), STATE);
        due.is("restore(1)", x.restore(1), STATE);
        due.is("holes, when these were refused", x.told(10), 7);
        due.is("camphor, when these were refused", x.told(11), 7);
    }

    private static void notKeptOfTheOther() {
        due.says("STATE: it was not (the other was)");
        for (int n = 0; n <= 1; n++) {
            MothAudit x = new MothAudit();
            x.image(n);
            x.robe(0, 7, 7);
            due.is("restore(" + (1 - n) + ")", x.restore(1 - n), STATE);
            due.is("holes, when this was refused", x.told(10), 7);
            due.is("restore(" + n + ")", x.restore(n), 1);
            due.is("holes", x.told(10), 0);
        }
    }

    private static void imageOfANewObject() {
        due.says("All but the PAD is kept: of a new object");
        MothAudit x = new MothAudit();
        x.image(1);
        x.robe(5, 65535, 9);
        x.saying(9, 5, 65535, 9);
        x.occasion(4, 65535);
        x.seen(1, true);
        Due.live(x, "A<.");
        x.restore(1);
        due.that("it answers as a new one does, but for its image",
                States.answers(x).equals(States.answers(imaged())));
    }

    private static MothAudit imaged() {
        MothAudit x = new MothAudit();
        x.image(1);
        return x;
    }

    private static void keptAgain() {
        due.says("kept in an IMAGE: in place of what was kept there");
        MothAudit x = new MothAudit();
        for (int n = 0; n <= 1; n++) {
            x.robe(0, 1 + n, 0);
            x.image(n);
        }
        x.robe(0, 9, 0);
        x.image(0);
        x.robe(0, 0, 0);
        x.restore(0);
        due.is("the later of 0", x.told(10), 9);
        x.restore(1);
        due.is("the one of 1", x.told(10), 2);
    }

    private static void asItWasWhenItWasKept() {
        due.says("It is as it was when it was kept");
        restores("holes", x -> x.robe(1, 9, 7));
        restores("camphor", x -> x.robe(1, 0b1000000000000101, 6));
        restores("the press", x -> Due.live(x, "A<"));
        restores("the press, taken out", x -> Due.live(x, "E>"));
        restores("the year", x -> Due.live(x, "."));
        restores("where", x -> x.saying(9, 4, 0b1001101, 3));
        restores("shape", x -> x.saying(9, 5, 0b1001100, 3));
        restores("how false", x -> x.saying(9, 5, 0b1001101, 9));
        restores("owned up to", x -> Due.live(x, "0"));
        restores("eaten", x -> Due.live(x, "A<F<*"));
        restores("an occasion", x -> x.occasion(4, 7));
        restores("no sights", x -> x.forget());
        restores("a sight more", x -> x.seen(1, true));
        restores("other sights", x -> {
            x.forget();
            x.seen(1, false);
            x.seen(2, false);
            x.seen(4, false);
        });
        restores("nothing", x -> x.fault());
    }

    private static void restores(String what, Consumer<MothAudit> change) {
        MothAudit untouched = States.made("living");
        untouched.image(1);
        MothAudit changed = States.made("living");
        changed.image(1);
        changed.wipe();
        change.accept(changed);
        Due.write(changed, "A<*A>A/5.B+");
        due.is(what + ": restore(1)", changed.restore(1), 1);
        due.that(what + ": as it was", States.answers(changed).equals(States.answers(untouched)));
    }

    private static void allButThePad() {
        due.says("All but the PAD is kept");
        MothAudit x = new MothAudit();
        Due.write(x, "A<.");
        x.image(0);
        Due.write(x, "?");
        x.restore(0);
        due.is("told(0), of another text", x.told(0), 1);
        due.is("fault(), of another text", x.fault(), 0);
        Due.write(x, ".".repeat(60));
        x.restore(0);
        due.is("told(0), of a full pad", x.told(0), 60);
        due.is("eaten(3), of a full pad", x.eaten(3), 60);
        x.wipe();
        x.restore(0);
        due.is("told(0), of an empty pad", x.told(0), 0);
        due.is("image(0) leaves the pad", x.say('A') + 10 * x.image(0) + 100 * x.told(0), 111);
    }

    private static void imagesStay() {
        due.says("as it was when it was kept: again, and when the other is restored");
        MothAudit x = new MothAudit();
        x.robe(0, 1, 1);
        x.image(0);
        x.robe(0, 2, 2);
        x.image(1);
        for (int turn = 0; turn < 3; turn++) {
            x.restore(0);
            due.is("holes of image 0", x.told(10), 1);
            x.robe(0, 3, 3);
            x.restore(1);
            due.is("holes of image 1", x.told(10), 2);
            x.robe(0, 4, 4);
        }
        x.restore(0);
        x.image(1);
        x.robe(0, 5, 5);
        x.restore(1);
        due.is("image 1 kept of image 0", x.told(10), 1);
    }

    private static void toldNumbers() {
        due.says("told .. OUTSIDE");
        int[] first = {0, 10, 20, 30, 40, 50, 60, 100, 110, 120, 130, 140, 150, 160, 170, 180, 190, 200};
        int[] last = {4, 11, 21, 31, 41, 51, 61, 102, 112, 122, 132, 142, 152, 162, 172, 182, 192, 204};
        MothAudit x = new MothAudit();
        for (int i = 0; i < first.length; i++) {
            due.is("told(" + (first[i] - 1) + ")", x.told(first[i] - 1), OUTSIDE);
            due.is("told(" + first[i] + ")", x.told(first[i]), 0);
            due.is("told(" + last[i] + ")", x.told(last[i]), 0);
            due.is("told(" + (last[i] + 1) + ")", x.told(last[i] + 1), OUTSIDE);
        }
        for (int wrong : new int[] {70, 71, 80, 90, 91, 210, 256, 300, 65536, -10, -100, -200}) {
            due.is("told(" + wrong + ")", x.told(wrong), OUTSIDE);
        }
        due.is("told of the least number", x.told(Integer.MIN_VALUE), OUTSIDE);
        due.is("told of the greatest number", x.told(Integer.MAX_VALUE), OUTSIDE);
    }

    private static void toldOfAll() {
        due.says("0 signs, 1 the year, 2 the PRESS (bits), 3 SIGHTS, 4 SAYINGS that are FALSE (bits)");
        MothAudit x = new MothAudit();
        x.saying(0, 0, 0, 1);
        x.saying(9, 0, 0, 9);
        x.seen(1, true);
        Due.live(x, "A<F<...");
        Due.write(x, "A>FF");
        due.is("told(0)", x.told(0), 4);
        due.is("told(1)", x.told(1), 3);
        due.is("told(2)", x.told(2), 33);
        due.is("told(3)", x.told(3), 1);
        due.is("told(4)", x.told(4), 513);
    }

    private static void toldOfRobes() {
        due.says("10 times (1 and a ROBE) and 0 HOLES, 1 CAMPHOR");
        MothAudit x = new MothAudit();
        for (int robe = 0; robe <= 5; robe++) {
            x.robe(robe, 65535 - robe, 9 - robe);
        }
        for (int robe = 0; robe <= 5; robe++) {
            due.is("told(" + 10 * (1 + robe) + ")", x.told(10 * (1 + robe)), 65535 - robe);
            due.is("told(" + (10 * (1 + robe) + 1) + ")", x.told(10 * (1 + robe) + 1), 9 - robe);
        }
    }

    private static void toldOfSayings() {
        due.says("100 and 10 times a SAYING and 0 where, 1 SHAPE, 2 by how much it is FALSE");
        MothAudit x = new MothAudit();
        for (int saying = 0; saying <= 9; saying++) {
            x.saying(saying, (saying + 5) % 6, 65535 - saying, 9 - saying);
        }
        for (int saying = 0; saying <= 9; saying++) {
            due.is("told(" + (100 + 10 * saying) + ")", x.told(100 + 10 * saying), (saying + 5) % 6);
            due.is("told(" + (101 + 10 * saying) + ")", x.told(101 + 10 * saying), 65535 - saying);
            due.is("told(" + (102 + 10 * saying) + ")", x.told(102 + 10 * saying), 9 - saying);
        }
    }

    private static void toldOfOccasions() {
        due.says("200 and an OCCASION: CELLS");
        MothAudit x = new MothAudit();
        for (int occasion = 0; occasion <= 4; occasion++) {
            x.occasion(occasion, 65535 - occasion);
        }
        for (int occasion = 0; occasion <= 4; occasion++) {
            due.is("told(" + (200 + occasion) + ")", x.told(200 + occasion), 65535 - occasion);
        }
    }

    private static void calls() {
        due.says("at most 512 calls after it has been made");
        MothAudit x = new MothAudit();
        for (int call = 1; call <= 510; call++) {
            due.is("call " + call, x.robe(5, call, call % 10), call - 1);
        }
        due.is("call 511", x.told(60), 510);
        due.is("call 512", x.told(61), 0);
    }
}
