/** The acts of part 1, part 2 of the terms and promises 8 to 12: each sentence that names a boundary. */
public final class EdgesOfYearsTest {
    private static final Due due = new Due("EdgesOfYearsTest");
    private static final int NONE = MothAudit.NONE, NO = MothAudit.NO, OUTSIDE = MothAudit.OUTSIDE;

    public static void main(String[] args) {
        liesThereAlready();
        doesNotLieThere();
        inThePress();
        camphorIs9();
        noHole();
        leastOfTheReasons();
        trueAlready();
        nothingInThePress();
        year99();
        firstAct();
        firstActAtTheEnds();
        judgeOutside();
        judgeWithAFault();
        emptyPad();
        doneActs();
        padIsEmptyThen();
        allIsSoThen();
        notDone();
        camphorMore();
        leastHole();
        ownedUpTo();
        falseByMoreThanCamphor();
        soManyCells();
        allIfFewer();
        leastFirst();
        wholeCellsOnly();
        inThePressOnly();
        sayingBySaying();
        yearEnds();
        camphorZeroAtLeast();
        behindHoles();
        behindCamphor();
        behindPress();
        untrue();
        howManyEaten();
        bareAct();
        bareActAtTheEnds();
        hadOneAhead();
        leastRobe();
        yearBehind();
        notBeingDone();
        due.end();
    }

    private static void judged(MothAudit x, String years, int act, int why) {
        Due.write(x, years);
        due.is("judge(0) of " + years, x.judge(0), act);
        due.is("judge(1) of " + years, x.judge(1), why);
    }

    private static void canBe(MothAudit x, String years) {
        judged(x, years, NONE, NONE);
    }

    private static void liesThereAlready() {
        due.says("1 it lies there already (<)");
        for (char robe = 'A'; robe <= 'F'; robe++) {
            MothAudit x = new MothAudit();
            canBe(x, robe + "<");
            judged(x, robe + "<" + robe + "<", 1, 1);
            canBe(x, robe + "<" + robe + ">" + robe + "<");
            Due.live(x, robe + "<");
            judged(x, robe + "<", 0, 1);
            canBe(x, (robe == 'A' ? "B" : "A") + "<");
        }
    }

    private static void doesNotLieThere() {
        due.says("1 .. does not (>)");
        for (char robe = 'A'; robe <= 'F'; robe++) {
            MothAudit x = new MothAudit();
            judged(x, robe + ">", 0, 1);
            canBe(x, robe + "<" + robe + ">");
            judged(x, robe + "<" + robe + ">" + robe + ">", 2, 1);
            judged(x, (robe == 'A' ? "B" : "A") + "<" + robe + ">", 1, 1);
            Due.live(x, robe + "<");
            canBe(x, robe + ">");
        }
    }

    private static void inThePress() {
        due.says("2 it lies in the PRESS (+, /)");
        for (char robe = 'A'; robe <= 'F'; robe++) {
            MothAudit x = new MothAudit();
            x.robe(robe - 'A', 1, 0);
            judged(x, robe + "<" + robe + "+", 1, 2);
            judged(x, robe + "<" + robe + "/", 1, 2);
            canBe(x, robe + "<" + robe + ">" + robe + "+");
            canBe(x, robe + "<" + robe + ">" + robe + "/");
            canBe(x, (robe == 'A' ? "B" : "A") + "<" + robe + "+" + robe + "/");
        }
    }

    private static void camphorIs9() {
        due.says("3 CAMPHOR is 9 (+)");
        for (char robe = 'A'; robe <= 'F'; robe++) {
            MothAudit x = new MothAudit();
            x.robe(robe - 'A', 0, 9);
            judged(x, robe + "+", 0, 3);
            canBe(x, "." + robe + "+");
            judged(x, "." + robe + "+" + robe + "+", 2, 3);
            x.robe(robe - 'A', 0, 8);
            canBe(x, robe + "+");
            judged(x, robe + "+" + robe + "+", 1, 3);
        }
    }

    private static void noHole() {
        due.says("3 .. there is no HOLE (/)");
        for (char robe = 'A'; robe <= 'F'; robe++) {
            MothAudit x = new MothAudit();
            judged(x, robe + "/", 0, 3);
            x.robe(robe - 'A', 1, 0);
            canBe(x, robe + "/");
            judged(x, robe + "/" + robe + "/", 1, 3);
            x.robe(robe - 'A', 32768, 0);
            canBe(x, robe + "/");
            judged(x, robe + "/" + robe + "/", 1, 3);
            x.robe(robe - 'A', 65535, 0);
            canBe(x, (robe + "/").repeat(16));
            judged(x, (robe + "/").repeat(17), 16, 3);
        }
    }

    private static void leastOfTheReasons() {
        due.says("for the least of these reasons");
        MothAudit x = new MothAudit();
        x.robe(0, 0, 9);
        judged(x, "A<A+", 1, 2);
        judged(x, "A<A/", 1, 2);
        judged(x, "A<A>A+", 2, 3);
        judged(x, "A<A>A/", 2, 3);
    }

    private static void trueAlready() {
        due.says("4 the SAYING is true already (a digit)");
        for (int saying = 0; saying <= 9; saying++) {
            MothAudit x = new MothAudit();
            judged(x, "" + saying, 0, 4);
            x.saying(saying, 0, 0, 1);
            canBe(x, "" + saying);
            judged(x, "" + saying + saying, 1, 4);
            x.saying(saying, 0, 0, 9);
            canBe(x, "" + saying);
            judged(x, "" + (saying + 1) % 10, 0, 4);
        }
    }

    private static void nothingInThePress() {
        due.says("5 nothing lies in the PRESS (*)");
        MothAudit x = new MothAudit();
        x.saying(0, 0, 65535, 9);
        judged(x, "*", 0, 5);
        for (char robe = 'A'; robe <= 'F'; robe++) {
            canBe(x, robe + "<*");
            judged(x, robe + "<" + robe + ">*", 2, 5);
        }
        canBe(x, "A<B<A>*");
        judged(x, "A<B<A>*B>*", 5, 5);
        Due.live(x, "F<");
        canBe(x, "*");
        x.robe(5, 0, 0);
        judged(x, "*", 0, 5);
    }

    private static MothAudit inYear(int year) {
        MothAudit x = new MothAudit();
        Due.live(x, ".".repeat(Math.min(year, 60)));
        Due.live(x, ".".repeat(Math.max(year - 60, 0)));
        return x;
    }

    private static void year99() {
        due.says("6 it is year 99 (.)");
        MothAudit x = inYear(98);
        due.is("told(1)", x.told(1), 98);
        canBe(x, ".");
        due.is("eaten(3)", x.eaten(3), 99);
        judged(x, "..", 1, 6);
        due.is("done of it", x.done(), NO);
        due.is("done", Due.live(x, "."), 1);
        due.is("told(1)", x.told(1), 99);
        judged(x, ".", 0, 6);
        canBe(x, "A+A<*A>");
        judged(x, "A+.", 1, 6);
        due.is("told(1)", x.told(1), 99);
    }

    private static void firstAct() {
        due.says("the first ACT (from 0 on) that can not be");
        MothAudit x = new MothAudit();
        judged(x, "A>B>*0", 0, 1);
        judged(x, "*A>", 0, 5);
        judged(x, "A+B+C>", 2, 1);
        judged(x, "A+.B+0", 3, 4);
        judged(x, "A<A<*", 1, 1);
    }

    private static void firstActAtTheEnds() {
        due.says("the first ACT (from 0 on) that can not be: the first, the last of a full PAD");
        MothAudit x = new MothAudit();
        judged(x, "*" + ".".repeat(59), 0, 5);
        judged(x, ".".repeat(59) + "*", 59, 5);
        judged(x, ".".repeat(58) + "A>", 58, 1);
        judged(x, "A<A>".repeat(14) + "A<A<", 29, 1);
        canBe(x, ".".repeat(60));
        canBe(x, "A<A>".repeat(15));
    }

    private static void judgeOutside() {
        due.says("JUDGED: the ACT (what = 0), why (1) .. OUTSIDE");
        MothAudit x = new MothAudit();
        Due.write(x, ".*");
        due.is("judge(-1)", x.judge(-1), OUTSIDE);
        due.is("judge(0)", x.judge(0), 1);
        due.is("judge(1)", x.judge(1), 5);
        due.is("judge(2)", x.judge(2), OUTSIDE);
    }

    private static void judgeWithAFault() {
        due.says("NO: there is a FAULT");
        String[] faulty = {"A", "?", "A>?", "?A>", "A>A", "*.0A", ".".repeat(59) + "A"};
        for (String years : faulty) {
            MothAudit x = new MothAudit();
            judged(x, years, NO, NO);
            due.is("judge(2) all the same", x.judge(2), OUTSIDE);
        }
    }

    private static void emptyPad() {
        due.says("JUDGED .. NONE; YEARS .. are DONE: ACTS; BEHIND (of an empty PAD)");
        MothAudit x = new MothAudit();
        x.robe(5, 65535, 9);
        x.saying(9, 5, 65535, 9);
        Due.live(x, "E<..");
        canBe(x, "");
        due.is("behind(5, 0)", x.behind(5, 0), 65535);
        due.is("behind(5, 1)", x.behind(5, 1), 7);
        due.is("behind(4, 2)", x.behind(4, 2), 1);
        due.is("behind(5, 2)", x.behind(5, 2), 0);
        due.is("untrue(9)", x.untrue(9), 9);
        due.is("eaten(0)", x.eaten(0), 0);
        due.is("eaten(1)", x.eaten(1), NONE);
        due.is("eaten(2)", x.eaten(2), NONE);
        due.is("eaten(3)", x.eaten(3), 2);
        due.is("done()", x.done(), 0);
        due.is("told(1), nothing was done", x.told(1), 2);
        due.is("told(2), nothing was done", x.told(2), 16);
    }

    private static void doneActs() {
        due.says("YEARS on the PAD are DONE: ACTS");
        due.is("none", Due.live(new MothAudit(), ""), 0);
        due.is("one of one sign", Due.live(new MothAudit(), "."), 1);
        due.is("one of two signs", Due.live(new MothAudit(), "A<"), 1);
        due.is("sixty", Due.live(new MothAudit(), ".".repeat(60)), 60);
        due.is("thirty", Due.live(new MothAudit(), "A<A>".repeat(15)), 30);
        due.is("of both", Due.live(new MothAudit(), "A<*.A>"), 4);
    }

    private static void padIsEmptyThen() {
        due.says("DONE (it is empty then)");
        MothAudit x = new MothAudit();
        Due.live(x, ".".repeat(60));
        due.is("told(0)", x.told(0), 0);
        due.is("done() again", x.done(), 0);
        due.is("told(1)", x.told(1), 60);
        due.is("wipe()", x.wipe(), 0);
        due.is("say('?')", x.say('?'), 1);
        due.is("fault()", x.fault(), 0);
    }

    private static void allIsSoThen() {
        due.says("DONE: all is so then");
        for (String state : new String[] {"new", "living", "full"}) {
            MothAudit x = States.made(state);
            MothAudit y = States.made(state);
            due.that("done, one that is " + state, x.done() >= 0);
            for (int robe = 0; robe <= 5; robe++) {
                due.is("holes of " + robe, x.told(10 + 10 * robe), y.behind(robe, 0));
                due.is("camphor of " + robe, x.told(11 + 10 * robe), y.behind(robe, 1));
                due.is("press, of " + robe, x.told(2) >> robe & 1, y.behind(robe, 2));
            }
            for (int saying = 0; saying <= 9; saying++) {
                due.is("how false, saying " + saying, x.told(102 + 10 * saying), y.untrue(saying));
            }
            due.is("the year", x.told(1), y.eaten(3));
            due.is("the pad", x.told(0), 0);
        }
    }

    private static void notDone() {
        due.says("NO: there is a FAULT, or an ACT that can not be");
        String[] refused = {"A+A", "A+?", "A+A>", "A+*", "A+0", "A+A<A<", ".".repeat(59) + "A", ".".repeat(59) + "*"};
        for (String years : refused) {
            MothAudit x = new MothAudit();
            due.is("done of " + years, Due.live(x, years), NO);
            due.is("the pad, refused", x.told(0), years.length());
            due.is("camphor, refused", x.told(11), 0);
            due.is("the year, refused", x.told(1), 0);
            due.is("the press, refused", x.told(2), 0);
            due.is("behind(0, 0)", x.behind(0, 0), NO);
            due.is("untrue(0)", x.untrue(0), NO);
            due.is("eaten(0)", x.eaten(0), NO);
        }
    }

    private static void camphorMore() {
        due.says("+ (CAMPHOR is 1 more)");
        MothAudit x = new MothAudit();
        x.robe(1, 0, 8);
        Due.write(x, "A+B+");
        due.is("of 0", x.behind(0, 1), 1);
        due.is("of 8", x.behind(1, 1), 9);
        due.is("of another", x.behind(2, 1), 0);
        Due.live(x, "A+B+");
        due.is("of 0, done", x.told(11), 1);
        due.is("of 8, done", x.told(21), 9);
    }

    private static void leastHole() {
        due.says("/ (the least HOLE is darned: it is WHOLE)");
        MothAudit x = new MothAudit();
        x.robe(5, 0b1000000000000001, 0);
        x.robe(4, 65535, 0);
        Due.write(x, "F/");
        due.is("cell 0 of 0 and 15", x.behind(5, 0), 0b1000000000000000);
        Due.write(x, "F/F/");
        due.is("cell 15", x.behind(5, 0), 0);
        due.is("another robe", x.behind(4, 0), 65535);
        Due.write(x, "E/".repeat(15));
        due.is("all but the last", x.behind(4, 0), 32768);
        Due.write(x, "E/".repeat(16));
        due.is("all", x.behind(4, 0), 0);
        Due.live(x, "E/F/");
        due.is("done", x.told(50), 65534);
        due.is("done", x.told(60), 32768);
    }

    private static void ownedUpTo() {
        due.says("it is not FALSE any more, by 0");
        MothAudit x = new MothAudit();
        x.saying(9, 5, 65535, 9);
        x.saying(8, 5, 0, 1);
        Due.write(x, "9");
        due.is("untrue(9)", x.untrue(9), 0);
        due.is("untrue(8)", x.untrue(8), 1);
        Due.write(x, "9F<*");
        due.is("eaten(0)", x.eaten(0), 0);
        Due.live(x, "98");
        due.is("told(4)", x.told(4), 0);
        due.is("shape stays", x.told(191), 65535);
        due.is("where stays", x.told(190), 5);
    }

    /** One robe's holes and the cells eaten, behind its being laid in and moths. */
    private static void moths(int holes, int camphor, int shape, int much, int holesThen, int eaten) {
        MothAudit x = new MothAudit();
        x.robe(5, holes, camphor);
        x.saying(9, 5, shape, much);
        Due.write(x, "F<*");
        String what = "holes " + holes + ", camphor " + camphor + ", shape " + shape + ", false by " + much;
        due.is(what + ": holes", x.behind(5, 0), holesThen);
        due.is(what + ": eaten", x.eaten(0), eaten);
    }

    private static void falseByMoreThanCamphor() {
        due.says("is FALSE by more than its CAMPHOR");
        moths(0, 0, 65535, 0, 0, 0);
        moths(0, 0, 65535, 1, 1, 1);
        moths(0, 1, 65535, 1, 0, 0);
        moths(0, 4, 65535, 5, 1, 1);
        moths(0, 5, 65535, 5, 0, 0);
        moths(0, 6, 65535, 5, 0, 0);
        moths(0, 9, 65535, 9, 0, 0);
        moths(0, 8, 65535, 9, 1, 1);
        moths(0, 9, 65535, 0, 0, 0);
    }

    private static void soManyCells() {
        due.says("so many CELLS are eaten .. as it is FALSE by more");
        moths(0, 0, 65535, 9, 511, 9);
        moths(0, 7, 65535, 9, 3, 2);
        moths(0, 1, 65535, 3, 3, 2);
    }

    private static void allIfFewer() {
        due.says("all, if they are fewer");
        moths(0, 0, 0b11100, 2, 0b01100, 2);
        moths(0, 0, 0b11100, 3, 0b11100, 3);
        moths(0, 0, 0b11100, 4, 0b11100, 3);
        moths(0, 0, 0b11100, 9, 0b11100, 3);
        moths(0, 0, 0, 9, 0, 0);
        moths(0, 0, 32768, 9, 32768, 1);
    }

    private static void leastFirst() {
        due.says("eaten, the least first");
        moths(0, 0, 0b1000000000000001, 1, 1, 1);
        moths(0, 0, 0b1000000000000001, 2, 0b1000000000000001, 2);
        moths(1, 0, 0b1000000000000001, 1, 0b1000000000000001, 1);
        moths(0, 0, 0b1010101010101010, 3, 0b0000000000101010, 3);
    }

    private static void wholeCellsOnly() {
        due.says("CELLS of its SHAPE that are WHOLE");
        moths(65535, 0, 65535, 9, 65535, 0);
        moths(0b0111, 0, 0b0111, 1, 0b0111, 0);
        moths(0b0101, 0, 0b0111, 9, 0b0111, 1);
        moths(65534, 0, 65535, 1, 65535, 1);
        moths(32767, 0, 65535, 1, 65535, 1);
        moths(0b1000, 0, 0b0011, 1, 0b1001, 1);
    }

    private static void inThePressOnly() {
        due.says("each that was said in a ROBE that lies in the PRESS");
        for (int robe = 0; robe <= 5; robe++) {
            for (int laid = 0; laid <= 5; laid++) {
                MothAudit x = new MothAudit();
                x.saying(3, robe, 65535, 9);
                Due.write(x, (char) ('A' + laid) + "<*");
                due.is("said in " + robe + ", laid in: " + laid, x.eaten(0), robe == laid ? 9 : 0);
            }
        }
        MothAudit x = new MothAudit();
        x.saying(3, 5, 65535, 9);
        Due.write(x, "F<A<F>*");
        due.is("taken out again", x.eaten(0), 0);
    }

    private static void sayingBySaying() {
        due.says("SAYING by SAYING, the least first");
        MothAudit x = new MothAudit();
        // If 9 ate ahead of 0, it would take cell 0, and 0 would take cell 1.
        x.saying(0, 2, 0b011, 1);
        x.saying(9, 2, 0b001, 1);
        Due.write(x, "C<*");
        due.is("0 and 9, holes", x.behind(2, 0), 0b001);
        due.is("0 and 9, eaten", x.eaten(0), 1);
        x.saying(0, 2, 0b001, 1);
        x.saying(9, 2, 0b011, 1);
        due.is("9 eats what 0 left, holes", x.behind(2, 0), 0b011);
        due.is("9 eats what 0 left, eaten", x.eaten(0), 2);
        x.saying(8, 2, 0b110, 1);
        due.is("8 eats ahead of 9, holes", x.behind(2, 0), 0b011);
        due.is("8 eats ahead of 9, eaten", x.eaten(0), 2);
    }

    private static void yearEnds() {
        due.says(". (a year ends: the CAMPHOR of each ROBE is 1 less");
        MothAudit x = new MothAudit();
        for (int robe = 0; robe <= 5; robe++) {
            x.robe(robe, 0, 9 - robe);
        }
        Due.live(x, "B<F<");
        Due.write(x, ".");
        for (int robe = 0; robe <= 5; robe++) {
            due.is("camphor of " + robe, x.behind(robe, 1), 8 - robe);
        }
        due.is("the year", x.eaten(3), 1);
        due.is("done", x.done(), 1);
        for (int robe = 0; robe <= 5; robe++) {
            due.is("camphor of " + robe + ", done", x.told(11 + 10 * robe), 8 - robe);
        }
    }

    private static void camphorZeroAtLeast() {
        due.says("1 less, 0 at least");
        MothAudit x = new MothAudit();
        x.robe(0, 0, 1);
        x.robe(5, 0, 2);
        Due.write(x, "..");
        due.is("of 0", x.behind(3, 1), 0);
        due.is("of 1", x.behind(0, 1), 0);
        due.is("of 2", x.behind(5, 1), 0);
        Due.live(x, "...");
        due.is("of 2, in three years", x.told(61), 0);
        canBe(x, "F+F+F+F+F+F+F+F+F+");
        due.is("nine more", x.behind(5, 1), 9);
    }

    private static void behindHoles() {
        due.says("BEHIND: HOLES (what = 0)");
        MothAudit x = new MothAudit();
        x.robe(0, 65535, 0);
        x.saying(0, 5, 32768, 1);
        Due.write(x, "F<*");
        due.is("all", x.behind(0, 0), 65535);
        due.is("none", x.behind(1, 0), 0);
        due.is("the last", x.behind(5, 0), 32768);
        due.is("behind(5, -1)", x.behind(5, -1), OUTSIDE);
        due.is("behind(5, 3)", x.behind(5, 3), OUTSIDE);
        due.is("behind(-1, 0)", x.behind(-1, 0), MothAudit.UNKNOWN);
        due.is("behind(6, 0)", x.behind(6, 0), MothAudit.UNKNOWN);
    }

    private static void behindCamphor() {
        due.says("BEHIND: CAMPHOR (1)");
        MothAudit x = new MothAudit();
        Due.write(x, "A+F+F+F+F+F+F+F+F+F+");
        due.is("one", x.behind(0, 1), 1);
        due.is("none", x.behind(1, 1), 0);
        due.is("nine", x.behind(5, 1), 9);
    }

    private static void behindPress() {
        due.says("BEHIND: whether it lies in the PRESS (2)");
        MothAudit x = new MothAudit();
        Due.live(x, "A<B<");
        Due.write(x, "B>F<");
        due.is("it lay there", x.behind(0, 2), 1);
        due.is("it was taken out", x.behind(1, 2), 0);
        due.is("it never lay there", x.behind(2, 2), 0);
        due.is("it was laid in", x.behind(5, 2), 1);
    }

    private static void untrue() {
        due.says("BEHIND: by how much a SAYING is FALSE");
        MothAudit x = new MothAudit();
        x.saying(0, 0, 0, 9);
        x.saying(9, 0, 0, 1);
        x.saying(5, 0, 0, 9);
        Due.write(x, "5");
        due.is("untrue(0)", x.untrue(0), 9);
        due.is("untrue(9)", x.untrue(9), 1);
        due.is("untrue(5)", x.untrue(5), 0);
        due.is("untrue(1)", x.untrue(1), 0);
    }

    private static void howManyEaten() {
        due.says("how many CELLS were eaten");
        MothAudit x = new MothAudit();
        for (int robe = 0; robe <= 5; robe++) {
            x.saying(robe, robe, 65535, 9);
        }
        Due.write(x, "A<B<C<D<E<F<*");
        due.is("once", x.eaten(0), 54);
        Due.write(x, "A<B<C<D<E<F<**");
        due.is("twice, all", x.eaten(0), 96);
        Due.write(x, "A<B<C<D<E<F<***");
        due.is("thrice, no more", x.eaten(0), 96);
        Due.write(x, "A<B<C<D<E<F<");
        due.is("none", x.eaten(0), 0);
        due.is("eaten(-1)", x.eaten(-1), OUTSIDE);
        due.is("eaten(4)", x.eaten(4), OUTSIDE);
        Due.live(x, "A<*");
        due.is("of years that are done, none", x.eaten(0), 0);
    }

    private static void bareAct() {
        due.says("the first ACT behind which a ROBE has no WHOLE CELL");
        MothAudit x = new MothAudit();
        x.robe(3, 65532, 0);
        x.saying(0, 3, 65535, 1);
        Due.write(x, "D<*");
        due.is("one cell is left", x.eaten(1), NONE);
        due.is("one cell is left", x.eaten(2), NONE);
        Due.write(x, "D<*.*");
        due.is("none is left", x.eaten(1), 3);
        due.is("none is left", x.eaten(2), 3);
        Due.write(x, "D<*.**.*");
        due.is("moths once more", x.eaten(1), 3);
        Due.write(x, "D<**D>D/D<*");
        due.is("the first of two", x.eaten(1), 2);
        due.is("the first of two", x.eaten(2), 3);
    }

    private static void bareActAtTheEnds() {
        due.says("the first ACT behind which a ROBE has no WHOLE CELL: the first, the last of a full PAD");
        MothAudit x = new MothAudit();
        x.robe(5, 32767, 0);
        x.saying(9, 5, 65535, 1);
        Due.live(x, "F<");
        Due.write(x, "*");
        due.is("eaten(1) of *", x.eaten(1), 0);
        due.is("eaten(2) of *", x.eaten(2), 5);
        Due.write(x, ".".repeat(59) + "*");
        due.is("eaten(1) of 59 years and *", x.eaten(1), 59);
        due.is("eaten(2) of 59 years and *", x.eaten(2), 5);
        Due.write(x, "*" + ".".repeat(59));
        due.is("eaten(1) of * and 59 years", x.eaten(1), 0);
        x.robe(0, 65534, 0);
        x.saying(9, 0, 1, 1);
        Due.live(x, "A<");
        Due.write(x, "*");
        due.is("eaten(2), of robe 0", x.eaten(2), 0);
    }

    private static void hadOneAhead() {
        due.says("a ROBE has no WHOLE CELL that had one ahead of it");
        MothAudit x = new MothAudit();
        x.robe(0, 65535, 0);
        x.robe(1, 65534, 0);
        x.saying(0, 0, 65535, 9);
        Due.write(x, "A<*");
        due.is("it had none", x.eaten(1), NONE);
        due.is("it had none", x.eaten(2), NONE);
        x.saying(1, 1, 65535, 9);
        Due.write(x, "A<*B<*");
        due.is("another had one", x.eaten(1), 3);
        due.is("another had one", x.eaten(2), 1);
        Due.write(x, "A/A<*");
        due.is("it had one, darned", x.eaten(1), 2);
        due.is("it had one, darned", x.eaten(2), 0);
        Due.live(x, "B<*");
        Due.write(x, "*");
        due.is("it has none since years that are done", x.eaten(1), NONE);
    }

    private static void leastRobe() {
        due.says("the least such ROBE (NONE)");
        MothAudit x = new MothAudit();
        x.robe(1, 65535, 0);
        x.robe(2, 65534, 0);
        x.robe(5, 65534, 0);
        x.saying(0, 5, 65535, 1);
        x.saying(1, 2, 65535, 1);
        x.saying(2, 1, 65535, 1);
        Due.write(x, "F<C<B<*");
        due.is("of 2 and 5, by one act", x.eaten(2), 2);
        due.is("of 2 and 5, by one act", x.eaten(1), 3);
        Due.write(x, "F<*C<*");
        due.is("5 ahead of 2", x.eaten(2), 5);
        due.is("5 ahead of 2", x.eaten(1), 1);
        Due.write(x, "F<C<");
        due.is("no moths", x.eaten(2), NONE);
    }

    private static void yearBehind() {
        due.says("BEHIND .. the year");
        MothAudit x = inYear(39);
        Due.write(x, "");
        due.is("no year more", x.eaten(3), 39);
        Due.write(x, ".".repeat(60));
        due.is("sixty years more", x.eaten(3), 99);
        due.is("told(1)", x.told(1), 39);
    }

    private static void notBeingDone() {
        due.says("BEHIND, likewise, not being DONE");
        for (String state : States.ALL) {
            MothAudit asked = States.made(state);
            asked.fault();
            asked.judge(0);
            asked.judge(1);
            for (int item = 0; item <= 3; item++) {
                asked.behind(item, item);
                asked.untrue(9 - item);
                asked.eaten(item);
            }
            due.that("one that is " + state + ", asked, is as it was",
                    States.answers(asked).equals(States.answers(States.made(state))));
        }
    }
}
