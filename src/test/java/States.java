import java.util.ArrayList;
import java.util.List;

/** Objects in several states, and all that an object can be asked: at most 512 calls of both together. */
final class States {
    /**
     * new; living: furnished, years on the pad, image 0 kept; full: 60 signs, 8 sights, both images;
     * faulty: a FAULT on the pad; stopped: an ACT that can not be.
     */
    static final List<String> ALL = List.of("new", "living", "full", "faulty", "stopped");

    private States() {
    }

    static MothAudit made(String state) {
        MothAudit x = new MothAudit();
        if (state.equals("new")) {
            return x;
        }
        furnish(x);
        switch (state) {
            case "living" -> Due.write(x, "A<*A>A/5.B+");
            case "full" -> fill(x);
            case "faulty" -> Due.write(x, "A<*B");
            case "stopped" -> Due.write(x, "A<*A<");
            default -> throw new IllegalArgumentException(state);
        }
        return x;
    }

    private static void furnish(MothAudit x) {
        x.robe(1, 0b1000000000000101, 7);
        x.robe(2, 65535, 8);
        x.robe(4, 0b1001, 2);
        x.robe(5, 0b110, 0);
        x.saying(0, 0, 65535, 9);
        x.saying(2, 1, 0b1001110, 1);
        x.saying(5, 4, 65535, 4);
        x.saying(7, 2, 65535, 0);
        x.saying(9, 5, 0b1001101, 3);
        x.occasion(0, 65535);
        x.occasion(3, 4097);
        x.occasion(4, 6);
        x.seen(3, true);
        x.seen(12, false);
        Due.live(x, "E<F+.2");
        x.image(0);
        x.robe(3, 255, 1);
        x.occasion(1, 9);
        x.seen(1023, true);
    }

    private static void fill(MothAudit x) {
        x.image(1);
        x.robe(3, 511, 3);
        for (int n = 0; n < 5; n++) {
            x.seen(1023, true);
        }
        Due.write(x, "A<*A>".repeat(12));
    }

    /** What the object answers to all that it can be asked; it is not as it was then. */
    static List<Long> answers(MothAudit x) {
        List<Long> answers = new ArrayList<>();
        askAsItIs(x, answers);
        askBehind(x, answers);
        askRest(x, answers);
        // One sign more, so that a pad that has a fault shows what is on it.
        answers.add((long) x.say('<'));
        answers.add((long) x.fault());
        answers.add((long) x.done());
        askAsItIs(x, answers);
        for (int n = 0; n <= 1; n++) {
            answers.add((long) x.restore(n));
            askAsItIs(x, answers);
        }
        return answers;
    }

    private static void askAsItIs(MothAudit x, List<Long> answers) {
        for (int what = 0; what <= 4; what++) {
            answers.add((long) x.told(what));
            answers.add((long) x.told(200 + what));
        }
        for (int robe = 0; robe <= 5; robe++) {
            answers.add((long) x.told(10 + 10 * robe));
            answers.add((long) x.told(11 + 10 * robe));
        }
        for (int saying = 0; saying <= 9; saying++) {
            for (int item = 0; item <= 2; item++) {
                answers.add((long) x.told(100 + 10 * saying + item));
            }
        }
        for (int what = 0; what <= 2; what++) {
            answers.add((long) x.liars(3, what));
        }
    }

    private static void askBehind(MothAudit x, List<Long> answers) {
        answers.add((long) x.fault());
        answers.add((long) x.judge(0));
        answers.add((long) x.judge(1));
        for (int robe = 0; robe <= 5; robe++) {
            for (int what = 0; what <= 2; what++) {
                answers.add((long) x.behind(robe, what));
            }
        }
        for (int saying = 0; saying <= 9; saying++) {
            answers.add((long) x.untrue(saying));
        }
        for (int what = 0; what <= 3; what++) {
            answers.add((long) x.eaten(what));
        }
    }

    private static void askRest(MothAudit x, List<Long> answers) {
        for (int robe = 0; robe <= 5; robe++) {
            answers.add((long) x.blame(robe, 1));
            answers.add((long) x.cuts(robe, 2, 3, 3, 5));
            answers.add((long) x.darns(robe, 1));
        }
        for (int occasion = -1; occasion <= 4; occasion++) {
            answers.add((long) x.wear(occasion));
        }
        for (int what = 0; what <= 2; what++) {
            answers.add((long) x.year(77, 99, what));
        }
        answers.add((long) x.tries(2, 0));
        answers.add((long) x.tries(2, 1));
        answers.add(x.chance(3, 5, 2, 0));
    }
}
