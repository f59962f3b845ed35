/** Part 1 of the terms and promises 1 to 7: each sentence that names a boundary, by its own words. */
public final class EdgesOfRobesTest {
    private static final Due due = new Due("EdgesOfRobesTest");
    private static final int NONE = MothAudit.NONE, UNKNOWN = MothAudit.UNKNOWN;
    private static final int OUTSIDE = MothAudit.OUTSIDE, FULL = MothAudit.FULL;

    public static void main(String[] args) {
        robes();
        cells();
        allWholeAtFirst();
        camphor();
        noCamphorAtFirst();
        notInThePressAtFirst();
        notInThePressThen();
        whichHolesItHad();
        sayings();
        saidInARobe();
        shapes();
        falseBy();
        sayingsAtFirst();
        howFalseItWas();
        occasions();
        seenOnAnOccasion();
        nothingSeenAtFirst();
        yearAtFirst();
        signsAtMost();
        codes();
        howManySigns();
        wiped();
        emptyPad();
        moreMustCome();
        firstSignThatCanNotStand();
        letters();
        digits();
        signsOfAllRobes();
        signsBehindALetter();
        noSecondSignWithoutLetter();
        due.end();
    }

    private static void robes() {
        due.says("ROBES 0 to 5");
        MothAudit x = new MothAudit();
        for (int robe : new int[] {0, 5}) {
            due.is("robe(" + robe + ", 3, 4)", x.robe(robe, 3, 4), 0);
            due.is("its holes", x.told(10 + 10 * robe), 3);
            due.is("its camphor", x.told(11 + 10 * robe), 4);
        }
        due.is("robe(-1, 3, 4)", x.robe(-1, 3, 4), UNKNOWN);
        due.is("robe(6, 3, 4)", x.robe(6, 3, 4), UNKNOWN);
        for (int robe = 1; robe <= 4; robe++) {
            due.is("holes of another", x.told(10 + 10 * robe), 0);
        }
    }

    private static void cells() {
        due.says("CELLS 0 to 15 each");
        MothAudit x = new MothAudit();
        for (int holes : new int[] {0, 1, 32768, 65535}) {
            x.robe(2, holes, 0);
            due.is("robe(2, " + holes + ", 0) and its holes", x.told(30), holes);
        }
        due.is("robe(2, -1, 0)", x.robe(2, -1, 0), OUTSIDE);
        due.is("robe(2, 65536, 0)", x.robe(2, 65536, 0), OUTSIDE);
        due.is("holes, when these were refused", x.told(30), 65535);
    }

    private static void allWholeAtFirst() {
        due.says("all WHOLE at first");
        MothAudit x = new MothAudit();
        for (int robe = 0; robe <= 5; robe++) {
            due.is("told(" + (10 + 10 * robe) + ")", x.told(10 + 10 * robe), 0);
            due.is("behind(" + robe + ", 0)", x.behind(robe, 0), 0);
            due.is("cuts(" + robe + ", 16, 1, 16, 1)", x.cuts(robe, 16, 1, 16, 1), 1);
        }
        due.is("year(0, 1, 0)", x.year(0, 1, 0), 96);
    }

    private static void camphor() {
        due.says("CAMPHOR (0 to 9");
        MothAudit x = new MothAudit();
        for (int camphor : new int[] {9, 0}) {
            due.is("robe(3, 0, " + camphor + ")", x.robe(3, 0, camphor), 0);
            due.is("its camphor", x.told(41), camphor);
        }
        due.is("robe(3, 7, -1)", x.robe(3, 7, -1), OUTSIDE);
        due.is("robe(3, 7, 10)", x.robe(3, 7, 10), OUTSIDE);
        due.is("camphor, when these were refused", x.told(41), 0);
        due.is("holes, when these were refused", x.told(40), 0);
    }

    private static void noCamphorAtFirst() {
        due.says("0 at first");
        MothAudit x = new MothAudit();
        for (int robe = 0; robe <= 5; robe++) {
            due.is("told(" + (11 + 10 * robe) + ")", x.told(11 + 10 * robe), 0);
            due.is("behind(" + robe + ", 1)", x.behind(robe, 1), 0);
        }
    }

    private static void notInThePressAtFirst() {
        due.says("lie in the PRESS, or not (not, at first)");
        MothAudit x = new MothAudit();
        due.is("told(2)", x.told(2), 0);
        for (int robe = 0; robe <= 5; robe++) {
            due.is("behind(" + robe + ", 2)", x.behind(robe, 2), 0);
        }
        due.is("F<", Due.live(x, "F<"), 1);
        due.is("told(2)", x.told(2), 32);
        due.is("A<B<C<D<E<", Due.live(x, "A<B<C<D<E<"), 5);
        due.is("told(2)", x.told(2), 63);
    }

    private static void notInThePressThen() {
        due.says("of a ROBE, which does not lie in the PRESS then");
        for (int robe = 0; robe <= 5; robe++) {
            MothAudit x = new MothAudit();
            Due.live(x, "A<B<C<D<E<F<");
            due.is("robe(" + robe + ", 0, 0)", x.robe(robe, 0, 0), 0);
            due.is("told(2)", x.told(2), 63 - (1 << robe));
            due.is("again", x.robe(robe, 0, 0), 0);
            due.is("told(2)", x.told(2), 63 - (1 << robe));
        }
    }

    private static void whichHolesItHad() {
        due.says("which HOLES it had");
        MothAudit x = new MothAudit();
        due.is("the first time", x.robe(1, 65535, 9), 0);
        due.is("all of them", x.robe(1, 32768, 0), 65535);
        due.is("the last", x.robe(1, 0, 0), 32768);
        due.is("none", x.robe(1, 1, 0), 0);
        x.saying(0, 1, 65535, 9);
        Due.live(x, "B<*");
        due.is("such as were eaten", x.robe(1, 0, 0), 1023);
    }

    private static void sayings() {
        due.says("SAYINGS 0 to 9");
        MothAudit x = new MothAudit();
        for (int saying : new int[] {0, 9}) {
            due.is("saying(" + saying + ", 1, 2, 3)", x.saying(saying, 1, 2, 3), 0);
            due.is("untrue(" + saying + ")", x.untrue(saying), 3);
        }
        due.is("saying(-1, 1, 2, 3)", x.saying(-1, 1, 2, 3), UNKNOWN);
        due.is("saying(10, 1, 2, 3)", x.saying(10, 1, 2, 3), UNKNOWN);
        due.is("untrue(-1)", x.untrue(-1), UNKNOWN);
        due.is("untrue(10)", x.untrue(10), UNKNOWN);
        due.is("told(4)", x.told(4), 513);
    }

    private static void saidInARobe() {
        due.says("A SAYING: where .. UNKNOWN: it, the ROBE");
        MothAudit x = new MothAudit();
        for (int robe : new int[] {5, 0}) {
            due.is("saying(4, " + robe + ", 0, 0)", x.saying(4, robe, 0, 0), 0);
            due.is("where", x.told(140), robe);
        }
        due.is("saying(4, -1, 0, 0)", x.saying(4, -1, 0, 0), UNKNOWN);
        due.is("saying(4, 6, 0, 0)", x.saying(4, 6, 0, 0), UNKNOWN);
        due.is("where, when these were refused", x.told(140), 0);
    }

    private static void shapes() {
        due.says("in the SHAPE of some CELLS (bits");
        MothAudit x = new MothAudit();
        for (int shape : new int[] {65535, 32768, 1, 0}) {
            due.is("saying(4, 1, " + shape + ", 0)", x.saying(4, 1, shape, 0), 0);
            due.is("its shape", x.told(141), shape);
        }
        due.is("saying(4, 2, -1, 1)", x.saying(4, 2, -1, 1), OUTSIDE);
        due.is("saying(4, 2, 65536, 1)", x.saying(4, 2, 65536, 1), OUTSIDE);
        due.is("shape, when these were refused", x.told(141), 0);
        due.is("where, when these were refused", x.told(140), 1);
        due.is("how false, when these were refused", x.told(142), 0);
    }

    private static void falseBy() {
        due.says("FALSE by 0 to 9");
        MothAudit x = new MothAudit();
        due.is("saying(4, 1, 3, 9)", x.saying(4, 1, 3, 9), 0);
        due.is("how false", x.told(142), 9);
        due.is("saying(4, 2, 5, 10)", x.saying(4, 2, 5, 10), OUTSIDE);
        due.is("saying(4, 2, 5, -1)", x.saying(4, 2, 5, -1), OUTSIDE);
        due.is("how false, when these were refused", x.told(142), 9);
        due.is("shape, when these were refused", x.told(141), 3);
        due.is("where, when these were refused", x.told(140), 1);
        due.is("saying(4, 1, 3, 0)", x.saying(4, 1, 3, 0), 9);
        due.is("how false", x.told(142), 0);
        due.says("FALSE by 0 to 9 (0 at first: it is true)");
        due.is("told(4)", x.told(4), 0);
        due.is("saying(4, 1, 3, 1)", x.saying(4, 1, 3, 1), 0);
        due.is("told(4)", x.told(4), 16);
    }

    private static void sayingsAtFirst() {
        due.says("said in a ROBE (0 at first), in the SHAPE of some CELLS (bits; none at first), FALSE by 0 (at first)");
        MothAudit x = new MothAudit();
        for (int saying = 0; saying <= 9; saying++) {
            due.is("where, saying " + saying, x.told(100 + 10 * saying), 0);
            due.is("shape, saying " + saying, x.told(101 + 10 * saying), 0);
            due.is("how false, saying " + saying, x.told(102 + 10 * saying), 0);
            due.is("untrue(" + saying + ")", x.untrue(saying), 0);
        }
        due.is("told(4)", x.told(4), 0);
        x.robe(0, 1, 0);
        due.is("blame(0, 0), for no shape has a cell", x.blame(0, 0), NONE);
    }

    private static void howFalseItWas() {
        due.says("by how much it is FALSE: by how much it was");
        MothAudit x = new MothAudit();
        due.is("the first time", x.saying(9, 5, 65535, 9), 0);
        due.is("by the most", x.saying(9, 0, 0, 1), 9);
        due.is("by the least", x.saying(9, 5, 65535, 0), 1);
        due.is("true", x.saying(9, 5, 65535, 4), 0);
        Due.live(x, "9");
        due.is("owned up to", x.saying(9, 5, 65535, 4), 0);
    }

    private static void occasions() {
        due.says("OCCASIONS 0 to 4");
        MothAudit x = new MothAudit();
        for (int occasion : new int[] {0, 4}) {
            due.is("occasion(" + occasion + ", 7)", x.occasion(occasion, 7), 0);
            due.is("its cells", x.told(200 + occasion), 7);
        }
        due.is("occasion(-1, 7)", x.occasion(-1, 7), UNKNOWN);
        due.is("occasion(5, 7)", x.occasion(5, 7), UNKNOWN);
        for (int occasion = 1; occasion <= 3; occasion++) {
            due.is("cells of another", x.told(200 + occasion), 0);
        }
    }

    private static void seenOnAnOccasion() {
        due.says("Which CELLS are seen on an OCCASION: which were");
        MothAudit x = new MothAudit();
        due.is("all of them", x.occasion(4, 65535), 0);
        due.is("the last", x.occasion(4, 32768), 65535);
        due.is("the first", x.occasion(4, 1), 32768);
        due.is("none", x.occasion(4, 0), 1);
        due.is("occasion(4, -1)", x.occasion(4, -1), OUTSIDE);
        due.is("occasion(4, 65536)", x.occasion(4, 65536), OUTSIDE);
        due.is("cells, when these were refused", x.occasion(4, 2), 0);
    }

    private static void nothingSeenAtFirst() {
        due.says("some CELLS are seen (bits; none at first)");
        MothAudit x = new MothAudit();
        for (int robe = 0; robe <= 5; robe++) {
            x.robe(robe, 65535, 0);
        }
        due.is("wear(-1)", x.wear(-1), 0);
        for (int occasion = 0; occasion <= 4; occasion++) {
            due.is("told(" + (200 + occasion) + ")", x.told(200 + occasion), 0);
        }
    }

    private static void yearAtFirst() {
        due.says("The year is 0 at first");
        MothAudit x = new MothAudit();
        due.is("told(1)", x.told(1), 0);
        due.is("eaten(3)", x.eaten(3), 0);
    }

    private static void signsAtMost() {
        due.says("60 SIGNS at most");
        MothAudit x = new MothAudit();
        for (int n = 1; n <= 60; n++) {
            due.is("sign " + n, x.say('.'), n);
        }
        for (int n = 61; n <= 63; n++) {
            due.is("sign " + n, x.say('.'), FULL);
        }
        due.is("told(0)", x.told(0), 60);
        due.is("eaten(3)", x.eaten(3), 60);
        due.is("wipe()", x.wipe(), 60);
        due.is("then the first", x.say('.'), 1);
    }

    private static void codes() {
        due.says("codes 33 to 126");
        MothAudit x = new MothAudit();
        due.is("say(33)", x.say(33), 1);
        due.is("say(126)", x.say(126), 2);
        due.is("say(32)", x.say(32), OUTSIDE);
        due.is("say(127)", x.say(127), OUTSIDE);
        due.is("told(0)", x.told(0), 2);
        due.is("say(33)", x.say(33), 3);
    }

    private static void howManySigns() {
        due.says("A sign more: how many");
        MothAudit x = new MothAudit();
        due.is("say('A')", x.say('A'), 1);
        due.is("say(' '), refused", x.say(' '), OUTSIDE);
        due.is("say('<')", x.say('<'), 2);
        due.is("done()", x.done(), 1);
        due.is("say('A') on the pad that is empty", x.say('A'), 1);
    }

    private static void wiped() {
        due.says("Signs go: how many there were");
        MothAudit x = new MothAudit();
        due.is("of an empty pad", x.wipe(), 0);
        x.say('A');
        due.is("of one", x.wipe(), 1);
        due.is("again", x.wipe(), 0);
        due.is("told(0)", x.told(0), 0);
        due.is("fault()", x.fault(), NONE);
        Due.write(x, ".".repeat(60));
        due.is("of a full pad", x.wipe(), 60);
        due.is("eaten(3)", x.eaten(3), 0);
    }

    private static void fault(String years, int place) {
        MothAudit x = new MothAudit();
        Due.write(x, years);
        due.is("fault of " + years, x.fault(), place);
    }

    private static void emptyPad() {
        due.says("an empty PAD has none");
        fault("", NONE);
        MothAudit x = new MothAudit();
        Due.write(x, "?");
        x.wipe();
        due.is("fault of what was wiped", x.fault(), NONE);
        Due.live(x, "A<");
        due.is("fault of what was done", x.fault(), NONE);
    }

    private static void moreMustCome() {
        due.says("the number of signs, if more must come");
        fault("A", 1);
        fault("F", 1);
        fault("A<F", 3);
        fault(".A", 2);
        fault(".".repeat(58) + "A", 59);
        fault(".".repeat(59) + "A", 60);
        fault(".".repeat(58) + "A<", NONE);
        fault("A<".repeat(29) + "A", 59);
        fault("A<".repeat(30), NONE);
        fault("." + "A<".repeat(29) + "A", 60);
    }

    private static void firstSignThatCanNotStand() {
        due.says("the place (from 0 on) of the first sign that can not stand there");
        fault("?", 0);
        fault("??", 0);
        fault("?A", 0);
        fault("A?", 1);
        fault("A??", 1);
        fault(".?", 1);
        fault("A<?", 2);
        fault(".".repeat(59) + "?", 59);
        fault(".".repeat(58) + "A?", 59);
        fault(".".repeat(58) + "??", 58);
        fault("AA<", 1);
        fault("A<A<A", 5);
    }

    private static void letters() {
        due.says("a ROBE's letter (A to F)");
        fault("A<", NONE);
        fault("F<", NONE);
        fault("@<", 0);
        fault("G<", 0);
        fault("a<", 0);
        fault("f<", 0);
        MothAudit x = new MothAudit();
        Due.live(x, "A<");
        due.is("A is robe 0", x.told(2), 1);
        Due.live(x, "F<");
        due.is("F is robe 5", x.told(2), 33);
    }

    private static void digits() {
        due.says("a digit (that SAYING is owned up to");
        fault("0", NONE);
        fault("9", NONE);
        // The signs ahead of 0 and behind 9.
        fault("/", 0);
        fault(":", 0);
        MothAudit x = new MothAudit();
        x.saying(0, 0, 0, 1);
        x.saying(9, 0, 0, 1);
        Due.write(x, "0");
        due.is("0 is saying 0", x.untrue(0), 0);
        due.is("and not 9", x.untrue(9), 1);
        Due.write(x, "9");
        due.is("9 is saying 9", x.untrue(9), 0);
        due.is("and not 0", x.untrue(0), 1);
    }

    private static void signsOfAllRobes() {
        due.says("* (moths .. ; . (a year ends");
        fault("*", NONE);
        fault(".", NONE);
        for (char beside : new char[] {')', '+', '-', '/'}) {
            fault("" + beside, 0);
        }
    }

    private static void signsBehindALetter() {
        due.says("a ROBE's letter and <, >, + or /");
        for (char act : new char[] {'<', '>', '+', '/'}) {
            fault("C" + act, NONE);
        }
        for (char beside : new char[] {';', '=', '?', '*', ',', '.', '0', '9', 'C'}) {
            fault("C" + beside, 1);
        }
    }

    private static void noSecondSignWithoutLetter() {
        due.says("YEARS are a text of ACTS");
        for (char act : new char[] {'<', '>', '+', '/'}) {
            fault("" + act, 0);
            fault("C<" + act, 2);
            fault("3" + act, 1);
        }
    }
}
