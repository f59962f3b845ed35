import java.util.Random;

/** Promises 1 to 25 together: runs of calls by fixed seeds, against OtherAudit. */
public final class RandomRunsTest {
    private static final Due due = new Due("RandomRunsTest");
    private static final int[] ODD = {Integer.MIN_VALUE, Integer.MAX_VALUE, -7, -1, 65536, 1024, 100, 60, 17, 16, 11, 10};

    private final Random random;
    private final MothAudit x = new MothAudit();
    private final OtherAudit y = new OtherAudit();
    private int calls;

    private RandomRunsTest(int seed) {
        random = new Random(seed);
    }

    public static void main(String[] args) {
        for (int seed = 0; seed < 600; seed++) {
            new RandomRunsTest(seed).run();
        }
        due.end();
    }

    private void run() {
        while (calls < 500) {
            int turn = random.nextInt(12);
            if (turn < 3) {
                set();
            } else if (turn < 7) {
                writeYears();
            } else if (turn < 9) {
                askNow();
            } else {
                askRest();
            }
        }
    }

    private void same(String call, long answer, long other) {
        calls++;
        if (calls <= 512) {
            due.is(call, answer, other);
        }
    }

    /** Mostly from 0 to most, now and then outside. */
    private int some(int most) {
        int kind = random.nextInt(60);
        return kind == 0 ? ODD[random.nextInt(ODD.length)] : kind == 1 ? most + 1 : kind == 2 ? -1 : random.nextInt(most + 1);
    }

    private int someCells() {
        int kind = random.nextInt(6);
        int cells = some(65535);
        return kind == 0 ? cells & random.nextInt(65536) : kind == 1 ? cells | random.nextInt(65536) : kind == 2 ? 65535 : cells;
    }

    private void set() {
        int a = some(5);
        int b = someCells();
        int c = some(9);
        int d = some(9);
        int kind = random.nextInt(5);
        if (kind == 0) {
            c = Math.min(c, 3);
            same("robe(" + a + ", " + b + ", " + c + ")", x.robe(a, b, c), y.robe(a, b, c));
        } else if (kind < 4) {
            same("saying(" + c + ", " + a + ", " + b + ", " + d + ")", x.saying(c, a, b, d), y.saying(c, a, b, d));
        } else {
            a = some(4);
            same("occasion(" + a + ", " + b + ")", x.occasion(a, b), y.occasion(a, b));
        }
    }

    private void say(int sign) {
        same("say(" + sign + ")", x.say(sign), y.say(sign));
    }

    private void writeYears() {
        if (random.nextInt(10) < 8) {
            same("wipe()", x.wipe(), y.wipe());
        }
        int acts = random.nextInt(random.nextInt(20) == 0 ? 50 : 9);
        for (int i = 0; i < acts; i++) {
            int kind = random.nextInt(40);
            if (kind == 0) {
                say(some(130));
            } else if (kind < 26) {
                say('A' + random.nextInt(random.nextInt(4) == 0 ? 6 : 2));
                say("<<><+/".charAt(random.nextInt(6)));
            } else {
                say("****.0123456789".charAt(random.nextInt(15)));
            }
        }
        int what = some(3);
        int robe = some(5);
        same("fault()", x.fault(), y.fault());
        same("judge(0)", x.judge(0), y.judge(0));
        same("judge(1)", x.judge(1), y.judge(1));
        same("behind(" + robe + ", " + what + ")", x.behind(robe, what), y.behind(robe, what));
        same("eaten(" + what + ")", x.eaten(what), y.eaten(what));
        int saying = some(9);
        same("untrue(" + saying + ")", x.untrue(saying), y.untrue(saying));
        if (random.nextInt(3) > 0) {
            same("done()", x.done(), y.done());
        }
    }

    private void askNow() {
        int a = some(5);
        int b = some(1);
        same("blame(" + a + ", " + b + ")", x.blame(a, b), y.blame(a, b));
        same("darns(" + a + ", " + b + ")", x.darns(a, b), y.darns(a, b));
        int m = random.nextInt(30) == 0 ? some(17) : 1 + random.nextInt(5);
        int n = random.nextInt(30) == 0 ? some(17) : 1 + random.nextInt(16);
        int v = some(99);
        int w = some(99);
        same("cuts(" + a + ", " + m + ", " + v + ", " + n + ", " + w + ")", x.cuts(a, m, v, n, w), y.cuts(a, m, v, n, w));
        if (random.nextInt(8) == 0) {
            int o = some(5) - 1;
            same("wear(" + o + ")", x.wear(o), y.wear(o));
        }
    }

    private void askRest() {
        int kind = random.nextInt(7);
        int n = some(1);
        if (kind == 0) {
            same("image(" + n + ")", x.image(n), y.image(n));
        } else if (kind == 1) {
            same("restore(" + n + ")", x.restore(n), y.restore(n));
        } else if (kind == 2) {
            int seed = some(9999);
            int m = some(99);
            int what = some(2);
            same("year(" + seed + ", " + m + ", " + what + ")", x.year(seed, m, what), y.year(seed, m, what));
        } else if (kind == 3) {
            int t = some(10);
            int k = some(16);
            int cells = some(16);
            same("chance(" + cells + ", " + t + ", " + k + ", " + n + ")", x.chance(cells, t, k, n), y.chance(cells, t, k, n));
        } else if (kind == 4) {
            askSights(n);
        } else {
            int what = some(205);
            same("told(" + what + ")", x.told(what), y.told(what));
        }
    }

    private void askSights(int n) {
        int sayings = some(1023);
        boolean bitten = random.nextBoolean();
        int m = some(3);
        int what = some(2);
        if (!bitten) {
            sayings &= random.nextInt(1024) | (sayings < 0 ? -1 : 0);
        }
        same("seen(" + sayings + ", " + bitten + ")", x.seen(sayings, bitten), y.seen(sayings, bitten));
        same("liars(" + m + ", " + what + ")", x.liars(m, what), y.liars(m, what));
        same("tries(" + m + ", " + n + ")", x.tries(m, n), y.tries(m, n));
        if (random.nextInt(4) == 0) {
            same("forget()", x.forget(), y.forget());
        }
    }
}
