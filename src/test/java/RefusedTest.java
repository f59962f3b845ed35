import java.util.List;
import java.util.function.ToLongFunction;

/**
 * The first paragraph under 'Terms': what refused calls answer, in which order, and that they change nothing.
 * Each refused call is asked of an object in each state; then it must answer all that another one, made
 * likewise but not asked, answers.
 */
public final class RefusedTest {
    private static final Due due = new Due("RefusedTest");
    private static final int UNKNOWN = -1, OUTSIDE = -2, STATE = -3, FULL = -4, NO = -5;
    private static final long LOST = -1000000000000000000L;
    private static final int[] NO_ROBE = Due.beyond(0, 5), NO_SAYING = Due.beyond(0, 9), NO_CELLS = Due.beyond(0, 65535);

    public static void main(String[] args) {
        due.says("UNKNOWN -1 (there is no such ROBE, SAYING, OCCASION)");
        unknownRobe();
        unknownSaying();
        unknownOccasion();
        due.says("OUTSIDE -2 (another number is not as told)");
        outsideRobe();
        outsideSaying();
        outsideOccasion();
        outsideSign();
        outsideWhat();
        outsideCuts();
        outsideSights();
        outsideYear();
        outsideImages();
        outsideTold();
        due.says("refused with LOST and the refusal");
        outsideChance();
        due.says("NO -5 (as told)");
        no();
        due.says("STATE -3 (as told)");
        state();
        due.says("FULL -4");
        full();
        due.says("the first of these that fits");
        unknownAheadOfOutside();
        unknownAheadOfNo();
        outsideAheadOfNo();
        outsideAheadOfState();
        outsideAheadOfFull();
        due.end();
    }

    private static void refusedIn(String state, String call, ToLongFunction<MothAudit> ask, long refusal) {
        MothAudit asked = States.made(state);
        List<Long> untouched = States.answers(States.made(state));
        due.is(call + " of one that is " + state, ask.applyAsLong(asked), refusal);
        due.that(call + " changes nothing of one that is " + state, States.answers(asked).equals(untouched));
    }

    private static void refused(String call, ToLongFunction<MothAudit> ask, long refusal) {
        for (String state : States.ALL) {
            refusedIn(state, call, ask, refusal);
        }
    }

    private static void unknownRobe() {
        for (int bad : NO_ROBE) {
            refused("robe(" + bad + ", 3, 2)", x -> x.robe(bad, 3, 2), UNKNOWN);
            refused("saying(3, " + bad + ", 3, 2)", x -> x.saying(3, bad, 3, 2), UNKNOWN);
            refused("blame(" + bad + ", 0)", x -> x.blame(bad, 0), UNKNOWN);
            refused("cuts(" + bad + ", 1, 1, 1, 1)", x -> x.cuts(bad, 1, 1, 1, 1), UNKNOWN);
            refused("darns(" + bad + ", 0)", x -> x.darns(bad, 0), UNKNOWN);
            refused("behind(" + bad + ", 0)", x -> x.behind(bad, 0), UNKNOWN);
        }
    }

    private static void unknownSaying() {
        for (int bad : NO_SAYING) {
            refused("saying(" + bad + ", 3, 3, 2)", x -> x.saying(bad, 3, 3, 2), UNKNOWN);
            refused("untrue(" + bad + ")", x -> x.untrue(bad), UNKNOWN);
        }
    }

    private static void unknownOccasion() {
        for (int bad : Due.beyond(0, 4)) {
            refused("occasion(" + bad + ", 3)", x -> x.occasion(bad, 3), UNKNOWN);
        }
        for (int bad : Due.beyond(-1, 4)) {
            refused("wear(" + bad + ")", x -> x.wear(bad), UNKNOWN);
        }
    }

    private static void outsideRobe() {
        for (int bad : NO_CELLS) {
            refused("robe(4, " + bad + ", 2)", x -> x.robe(4, bad, 2), OUTSIDE);
        }
        for (int bad : Due.beyond(0, 9)) {
            refused("robe(4, 2, " + bad + ")", x -> x.robe(4, 2, bad), OUTSIDE);
        }
    }

    private static void outsideSaying() {
        for (int bad : NO_CELLS) {
            refused("saying(9, 1, " + bad + ", 2)", x -> x.saying(9, 1, bad, 2), OUTSIDE);
        }
        for (int bad : Due.beyond(0, 9)) {
            refused("saying(9, 1, 2, " + bad + ")", x -> x.saying(9, 1, 2, bad), OUTSIDE);
        }
    }

    private static void outsideOccasion() {
        for (int bad : NO_CELLS) {
            refused("occasion(4, " + bad + ")", x -> x.occasion(4, bad), OUTSIDE);
        }
    }

    private static void outsideSign() {
        for (int bad : Due.beyond(33, 126)) {
            refused("say(" + bad + ")", x -> x.say(bad), OUTSIDE);
        }
    }

    private static void outsideWhat() {
        for (int bad : Due.beyond(0, 1)) {
            refused("judge(" + bad + ")", x -> x.judge(bad), OUTSIDE);
            refused("blame(1, " + bad + ")", x -> x.blame(1, bad), OUTSIDE);
            refused("darns(1, " + bad + ")", x -> x.darns(1, bad), OUTSIDE);
        }
        for (int bad : Due.beyond(0, 2)) {
            refused("behind(1, " + bad + ")", x -> x.behind(1, bad), OUTSIDE);
        }
        for (int bad : Due.beyond(0, 3)) {
            refused("eaten(" + bad + ")", x -> x.eaten(bad), OUTSIDE);
        }
    }

    private static void outsideCuts() {
        for (int bad : Due.beyond(1, 16)) {
            refused("cuts(3, " + bad + ", 1, 1, 1)", x -> x.cuts(3, bad, 1, 1, 1), OUTSIDE);
            refused("cuts(3, 1, 1, " + bad + ", 1)", x -> x.cuts(3, 1, 1, bad, 1), OUTSIDE);
        }
        for (int bad : Due.beyond(0, 99)) {
            refused("cuts(3, 1, " + bad + ", 1, 1)", x -> x.cuts(3, 1, bad, 1, 1), OUTSIDE);
            refused("cuts(3, 1, 1, 1, " + bad + ")", x -> x.cuts(3, 1, 1, 1, bad), OUTSIDE);
        }
    }

    private static void outsideSights() {
        for (int bad : Due.beyond(1, 1023)) {
            refused("seen(" + bad + ", true)", x -> x.seen(bad, true), OUTSIDE);
            refused("seen(" + bad + ", false)", x -> x.seen(bad, false), OUTSIDE);
        }
        for (int bad : Due.beyond(0, 3)) {
            refused("liars(" + bad + ", 0)", x -> x.liars(bad, 0), OUTSIDE);
            refused("tries(" + bad + ", 0)", x -> x.tries(bad, 0), OUTSIDE);
        }
        for (int bad : Due.beyond(0, 2)) {
            refused("liars(3, " + bad + ")", x -> x.liars(3, bad), OUTSIDE);
        }
        for (int bad : Due.beyond(0, 1)) {
            refused("tries(3, " + bad + ")", x -> x.tries(3, bad), OUTSIDE);
        }
    }

    private static void outsideYear() {
        for (int bad : Due.beyond(0, 9999)) {
            refused("year(" + bad + ", 9, 0)", x -> x.year(bad, 9, 0), OUTSIDE);
        }
        for (int bad : Due.beyond(1, 99)) {
            refused("year(9, " + bad + ", 0)", x -> x.year(9, bad, 0), OUTSIDE);
        }
        for (int bad : Due.beyond(0, 2)) {
            refused("year(9, 9, " + bad + ")", x -> x.year(9, 9, bad), OUTSIDE);
        }
    }

    private static void outsideImages() {
        for (int bad : Due.beyond(0, 1)) {
            refused("image(" + bad + ")", x -> x.image(bad), OUTSIDE);
            refused("restore(" + bad + ")", x -> x.restore(bad), OUTSIDE);
        }
    }

    private static void outsideTold() {
        int[] wrong = {-1, 5, 9, 12, 19, 62, 70, 99, 103, 193, 199, 205, 210, Integer.MIN_VALUE, Integer.MAX_VALUE};
        for (int bad : wrong) {
            refused("told(" + bad + ")", x -> x.told(bad), OUTSIDE);
        }
    }

    private static void outsideChance() {
        for (int bad : Due.beyond(0, 16)) {
            refused("chance(" + bad + ", 5, 1, 0)", x -> x.chance(bad, 5, 1, 0), LOST + OUTSIDE);
            refused("chance(5, 5, " + bad + ", 0)", x -> x.chance(5, 5, bad, 0), LOST + OUTSIDE);
        }
        for (int bad : Due.beyond(0, 10)) {
            refused("chance(5, " + bad + ", 1, 1)", x -> x.chance(5, bad, 1, 1), LOST + OUTSIDE);
        }
        for (int bad : Due.beyond(0, 1)) {
            refused("chance(5, 5, 1, " + bad + ")", x -> x.chance(5, 5, 1, bad), LOST + OUTSIDE);
        }
    }

    private static void no() {
        refusedIn("faulty", "judge(0)", x -> x.judge(0), NO);
        refusedIn("faulty", "judge(1)", x -> x.judge(1), NO);
        for (String state : List.of("faulty", "stopped")) {
            refusedIn(state, "done()", x -> x.done(), NO);
            for (int item = 0; item <= 3; item++) {
                int what = item;
                refusedIn(state, "eaten(" + what + ")", x -> x.eaten(what), NO);
            }
            for (int item = 0; item <= 2; item++) {
                int what = item;
                refusedIn(state, "behind(0, " + what + ")", x -> x.behind(0, what), NO);
                refusedIn(state, "behind(5, " + what + ")", x -> x.behind(5, what), NO);
            }
            refusedIn(state, "untrue(0)", x -> x.untrue(0), NO);
            refusedIn(state, "untrue(9)", x -> x.untrue(9), NO);
        }
    }

    private static void state() {
        refusedIn("new", "restore(0)", x -> x.restore(0), STATE);
        for (String state : List.of("new", "living", "faulty", "stopped")) {
            refusedIn(state, "restore(1)", x -> x.restore(1), STATE);
        }
    }

    private static void full() {
        refusedIn("full", "say(33)", x -> x.say(33), FULL);
        refusedIn("full", "say(126)", x -> x.say(126), FULL);
        refusedIn("full", "seen(1, true)", x -> x.seen(1, true), FULL);
        refusedIn("full", "seen(1023, false)", x -> x.seen(1023, false), FULL);
    }

    private static void unknownAheadOfOutside() {
        refused("robe(6, 65536, 0)", x -> x.robe(6, 65536, 0), UNKNOWN);
        refused("robe(-1, 0, 10)", x -> x.robe(-1, 0, 10), UNKNOWN);
        refused("saying(10, 0, 65536, 0)", x -> x.saying(10, 0, 65536, 0), UNKNOWN);
        refused("saying(-1, 0, 0, 10)", x -> x.saying(-1, 0, 0, 10), UNKNOWN);
        refused("saying(0, 6, 65536, 0)", x -> x.saying(0, 6, 65536, 0), UNKNOWN);
        refused("saying(0, -1, 0, 10)", x -> x.saying(0, -1, 0, 10), UNKNOWN);
        refused("occasion(5, 65536)", x -> x.occasion(5, 65536), UNKNOWN);
        refused("occasion(-1, -1)", x -> x.occasion(-1, -1), UNKNOWN);
        refused("behind(6, 3)", x -> x.behind(6, 3), UNKNOWN);
        refused("blame(6, 2)", x -> x.blame(6, 2), UNKNOWN);
        refused("darns(6, 2)", x -> x.darns(6, 2), UNKNOWN);
        refused("cuts(6, 0, 1, 1, 1)", x -> x.cuts(6, 0, 1, 1, 1), UNKNOWN);
        refused("cuts(6, 1, 100, 1, 1)", x -> x.cuts(6, 1, 100, 1, 1), UNKNOWN);
        refused("cuts(-1, 1, 1, 17, 1)", x -> x.cuts(-1, 1, 1, 17, 1), UNKNOWN);
        refused("cuts(-1, 1, 1, 1, -1)", x -> x.cuts(-1, 1, 1, 1, -1), UNKNOWN);
    }

    private static void unknownAheadOfNo() {
        for (String state : List.of("faulty", "stopped")) {
            refusedIn(state, "behind(6, 0)", x -> x.behind(6, 0), UNKNOWN);
            refusedIn(state, "behind(-1, 0)", x -> x.behind(-1, 0), UNKNOWN);
            refusedIn(state, "untrue(10)", x -> x.untrue(10), UNKNOWN);
            refusedIn(state, "untrue(-1)", x -> x.untrue(-1), UNKNOWN);
        }
    }

    private static void outsideAheadOfNo() {
        for (String state : List.of("faulty", "stopped")) {
            refusedIn(state, "judge(2)", x -> x.judge(2), OUTSIDE);
            refusedIn(state, "judge(-1)", x -> x.judge(-1), OUTSIDE);
            refusedIn(state, "behind(5, 3)", x -> x.behind(5, 3), OUTSIDE);
            refusedIn(state, "behind(0, -1)", x -> x.behind(0, -1), OUTSIDE);
            refusedIn(state, "eaten(4)", x -> x.eaten(4), OUTSIDE);
            refusedIn(state, "eaten(-1)", x -> x.eaten(-1), OUTSIDE);
        }
    }

    private static void outsideAheadOfState() {
        refusedIn("new", "restore(2)", x -> x.restore(2), OUTSIDE);
        refusedIn("new", "restore(-1)", x -> x.restore(-1), OUTSIDE);
    }

    private static void outsideAheadOfFull() {
        refusedIn("full", "say(32)", x -> x.say(32), OUTSIDE);
        refusedIn("full", "say(127)", x -> x.say(127), OUTSIDE);
        refusedIn("full", "seen(0, true)", x -> x.seen(0, true), OUTSIDE);
        refusedIn("full", "seen(1024, false)", x -> x.seen(1024, false), OUTSIDE);
    }
}
