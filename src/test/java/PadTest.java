/** Promises 5 to 7: signs, the pad, THE FAULT. */
public final class PadTest {
    private static final Due due = new Due("PadTest");

    public static void main(String[] args) {
        signs();
        fullPad();
        faults();
        everySignAlone();
        everySignBehindLetter();
        due.end();
    }

    private static void signs() {
        MothAudit x = new MothAudit();
        due.is("promise 5: 33", x.say(33), 1);
        due.is("promise 5: 126", x.say(126), 2);
        int[] wrong = {32, 127, 0, -1, 65 + 65536, Integer.MIN_VALUE, Integer.MAX_VALUE};
        for (int sign : wrong) {
            due.is("promise 5: " + sign, x.say(sign), MothAudit.OUTSIDE);
        }
        due.is("promise 5: how many", x.told(0), 2);
        due.is("promise 6: wiped", x.wipe(), 2);
        due.is("promise 6: none there", x.wipe(), 0);
        due.is("promise 6: none told", x.told(0), 0);
    }

    private static void fullPad() {
        MothAudit x = new MothAudit();
        for (int n = 1; n <= 60; n++) {
            due.is("promise 5: sign " + n, x.say(n % 2 == 1 ? 'A' : '+'), n);
        }
        due.is("promise 5: full", x.say('.'), MothAudit.FULL);
        due.is("promise 5: outside ahead of full", x.say(32), MothAudit.OUTSIDE);
        due.is("promise 7: full pad", x.fault(), MothAudit.NONE);
        due.is("promise 5: unchanged", x.told(0), 60);
        due.is("promise 8: camphor is 9 at the tenth", x.judge(0), 9);
        due.is("promise 6: wiped", x.wipe(), 60);
        due.is("promise 5: from the start", x.say('A'), 1);
        for (int n = 2; n <= 60; n++) {
            x.say(n == 60 ? 'B' : '.');
        }
        due.is("promise 7: place 1", x.fault(), 1);
        x.wipe();
        for (int n = 1; n <= 60; n++) {
            x.say(n == 60 ? 'B' : '.');
        }
        due.is("promise 7: behind a full pad", x.fault(), 60);
        due.is("promise 5: full all the same", x.say('<'), MothAudit.FULL);
    }

    private static void faults() {
        fault("", MothAudit.NONE);
        fault("A", 1);
        fault("F", 1);
        fault("G", 0);
        fault("@", 0);
        fault("a<", 0);
        fault("A<", MothAudit.NONE);
        fault("F>", MothAudit.NONE);
        fault("C+", MothAudit.NONE);
        fault("D/", MothAudit.NONE);
        fault("A*", 1);
        fault("A.", 1);
        fault("A3", 1);
        fault("AA", 1);
        fault("AB<", 1);
        fault("0123456789", MothAudit.NONE);
        fault("*.*.", MothAudit.NONE);
        fault("<", 0);
        fault("*/", 1);
        fault("*.5A", 4);
        fault("*.5A<", MothAudit.NONE);
        fault("*.5A<B", 6);
        fault("A<<", 2);
        fault("A<B>C+D/E", 9);
        fault("A<B>C+D/E,", 9);
        fault("A<B>C+D/G<", 8);
        fault("!~", 0);
    }

    private static void fault(String years, int place) {
        MothAudit x = new MothAudit();
        Due.write(x, years);
        due.is("promise 7: fault of " + years, x.fault(), place);
        due.is("promise 7: judge of " + years, x.judge(0) == MothAudit.NO ? 1 : 0, place == MothAudit.NONE ? 0 : 1);
    }

    private static void everySignAlone() {
        for (int sign = 33; sign <= 126; sign++) {
            int place = "0123456789*.".indexOf(sign) >= 0 ? MothAudit.NONE
                    : "ABCDEF".indexOf(sign) >= 0 ? 1 : 0;
            fault("" + (char) sign, place);
        }
    }

    private static void everySignBehindLetter() {
        for (int sign = 33; sign <= 126; sign++) {
            fault("*E" + (char) sign, "<>+/".indexOf(sign) >= 0 ? MothAudit.NONE : 2);
        }
    }
}
