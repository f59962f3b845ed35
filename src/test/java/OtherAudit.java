import java.math.BigInteger;
import java.util.ArrayList;
import java.util.Arrays;
import java.util.List;
import java.util.TreeSet;

/** The document told a second time, by other ways than MothAudit's: slow, with sets and texts. */
final class OtherAudit {
    private static final int NONE = -6, UNKNOWN = -1, OUTSIDE = -2, STATE = -3, FULL = -4, NO = -5;

    /** What an image keeps. */
    private static final class All {
        List<TreeSet<Integer>> holes = new ArrayList<>();
        int[] camphor = new int[6];
        TreeSet<Character> press = new TreeSet<>();
        int[][] sayings = new int[10][3];
        int[] occasions = new int[5];
        List<Integer> sights = new ArrayList<>();
        int year;

        All copy() {
            All copy = new All();
            for (TreeSet<Integer> some : holes) {
                copy.holes.add(new TreeSet<>(some));
            }
            copy.camphor = camphor.clone();
            copy.press = new TreeSet<>(press);
            for (int i = 0; i < 10; i++) {
                copy.sayings[i] = sayings[i].clone();
            }
            copy.occasions = occasions.clone();
            copy.sights = new ArrayList<>(sights);
            copy.year = year;
            return copy;
        }
    }

    /** What came of a list of acts. */
    private static final class Outcome {
        All all;
        int stopped = NONE, why = NONE, eaten = 0, bareAct = NONE, bareRobe = NONE, acts = 0;
    }

    private All all = new All();
    private String pad = "";
    private final All[] images = new All[2];

    OtherAudit() {
        for (int i = 0; i < 6; i++) {
            all.holes.add(new TreeSet<>());
        }
    }

    private static boolean not(int x, int from, int to) {
        return x < from || x > to;
    }

    private static TreeSet<Integer> cells(int bits) {
        TreeSet<Integer> set = new TreeSet<>();
        for (int i = 0; i < 16; i++) {
            if (bits / (1 << i) % 2 == 1) {
                set.add(i);
            }
        }
        return set;
    }

    private static int bits(Iterable<Integer> set) {
        int sum = 0;
        for (int i : set) {
            sum += 1 << i;
        }
        return sum;
    }

    int robe(int robe, int holes, int camphor) {
        if (not(robe, 0, 5)) return UNKNOWN;
        if (not(holes, 0, 65535) || not(camphor, 0, 9)) return OUTSIDE;
        int was = bits(all.holes.get(robe));
        all.holes.set(robe, cells(holes));
        all.camphor[robe] = camphor;
        all.press.remove((char) ('A' + robe));
        return was;
    }

    int saying(int saying, int robe, int shape, int much) {
        if (not(saying, 0, 9) || not(robe, 0, 5)) return UNKNOWN;
        if (not(shape, 0, 65535) || not(much, 0, 9)) return OUTSIDE;
        int was = all.sayings[saying][2];
        all.sayings[saying] = new int[] {robe, shape, much};
        return was;
    }

    int occasion(int occasion, int cells) {
        if (not(occasion, 0, 4)) return UNKNOWN;
        if (not(cells, 0, 65535)) return OUTSIDE;
        int was = all.occasions[occasion];
        all.occasions[occasion] = cells;
        return was;
    }

    int say(int sign) {
        if (not(sign, 33, 126)) return OUTSIDE;
        if (pad.length() == 60) return FULL;
        pad += (char) sign;
        return pad.length();
    }

    int wipe() {
        int was = pad.length();
        pad = "";
        return was;
    }

    int fault() {
        if (pad.matches("([A-F][<>+/]|[0-9*.])*")) return NONE;
        // The longest beginning that some years could begin with.
        for (int n = pad.length(); n > 0; n--) {
            if (pad.substring(0, n).matches("([A-F][<>+/]|[0-9*.])*[A-F]?")) return n;
        }
        return 0;
    }

    private List<String> acts() {
        List<String> acts = new ArrayList<>();
        String rest = pad;
        while (!rest.isEmpty()) {
            int n = rest.matches("[A-F].*") ? 2 : 1;
            acts.add(rest.substring(0, n));
            rest = rest.substring(n);
        }
        return acts;
    }

    private static TreeSet<Integer> reasons(All now, String act) {
        TreeSet<Integer> reasons = new TreeSet<>();
        char first = act.charAt(0);
        if (act.length() == 2) {
            boolean lies = now.press.contains(first);
            int robe = first - 'A';
            switch (act.charAt(1)) {
                case '<' -> { if (lies) reasons.add(1); }
                case '>' -> { if (!lies) reasons.add(1); }
                case '+' -> {
                    if (lies) reasons.add(2);
                    if (now.camphor[robe] == 9) reasons.add(3);
                }
                default -> {
                    if (lies) reasons.add(2);
                    if (now.holes.get(robe).isEmpty()) reasons.add(3);
                }
            }
        } else if (first == '*') {
            if (now.press.isEmpty()) reasons.add(5);
        } else if (first == '.') {
            if (now.year == 99) reasons.add(6);
        } else if (now.sayings[first - '0'][2] == 0) {
            reasons.add(4);
        }
        return reasons;
    }

    private static void act(Outcome o, String act) {
        All now = o.all;
        char first = act.charAt(0);
        int robe = first - 'A';
        if (act.endsWith("<")) now.press.add(first);
        else if (act.endsWith(">")) now.press.remove(first);
        else if (act.endsWith("+")) now.camphor[robe]++;
        else if (act.endsWith("/")) now.holes.get(robe).pollFirst();
        else if (act.equals("*")) moths(o);
        else if (act.equals(".")) {
            now.year++;
            for (int i = 0; i < 6; i++) {
                if (now.camphor[i] > 0) now.camphor[i]--;
            }
        } else now.sayings[first - '0'][2] = 0;
        o.acts++;
    }

    private static void moths(Outcome o) {
        int[] before = new int[6];
        for (int i = 0; i < 6; i++) before[i] = o.all.holes.get(i).size();
        for (int[] saying : o.all.sayings) {
            if (!o.all.press.contains((char) ('A' + saying[0]))) continue;
            TreeSet<Integer> holes = o.all.holes.get(saying[0]);
            TreeSet<Integer> whole = cells(saying[1]);
            whole.removeAll(holes);
            for (int left = saying[2] - o.all.camphor[saying[0]]; left > 0 && !whole.isEmpty(); left--) {
                holes.add(whole.pollFirst());
                o.eaten++;
            }
        }
        for (int i = 0; i < 6; i++) {
            if (before[i] < 16 && o.all.holes.get(i).size() == 16 && o.bareAct == NONE) {
                o.bareAct = o.acts;
                o.bareRobe = i;
            }
        }
    }

    private Outcome outcome() {
        Outcome o = new Outcome();
        o.all = all.copy();
        for (String act : acts()) {
            TreeSet<Integer> reasons = reasons(o.all, act);
            if (!reasons.isEmpty()) {
                o.stopped = o.acts;
                o.why = reasons.first();
                break;
            }
            act(o, act);
        }
        return o;
    }

    int judge(int what) {
        if (not(what, 0, 1)) return OUTSIDE;
        if (fault() != NONE) return NO;
        Outcome o = outcome();
        return what == 0 ? o.stopped : o.why;
    }

    private boolean stands() {
        return fault() == NONE && outcome().stopped == NONE;
    }

    int done() {
        if (!stands()) return NO;
        Outcome o = outcome();
        all = o.all;
        pad = "";
        return o.acts;
    }

    int behind(int robe, int what) {
        if (not(robe, 0, 5)) return UNKNOWN;
        if (not(what, 0, 2)) return OUTSIDE;
        if (!stands()) return NO;
        All then = outcome().all;
        return what == 0 ? bits(then.holes.get(robe)) : what == 1 ? then.camphor[robe]
                : then.press.contains((char) ('A' + robe)) ? 1 : 0;
    }

    int untrue(int saying) {
        if (not(saying, 0, 9)) return UNKNOWN;
        if (!stands()) return NO;
        return outcome().all.sayings[saying][2];
    }

    int eaten(int what) {
        if (not(what, 0, 3)) return OUTSIDE;
        if (!stands()) return NO;
        Outcome o = outcome();
        return new int[] {o.eaten, o.bareAct, o.bareRobe, o.all.year}[what];
    }

    int blame(int robe, int what) {
        if (not(robe, 0, 5)) return UNKNOWN;
        if (not(what, 0, 1)) return OUTSIDE;
        int best = NONE;
        for (int set = 1023; set >= 0; set--) {
            TreeSet<Integer> left = new TreeSet<>(all.holes.get(robe));
            boolean here = true;
            for (int s : cells(set)) {
                here &= all.sayings[s][0] == robe;
                left.removeAll(cells(all.sayings[s][1]));
            }
            if (here && left.isEmpty() && (best == NONE || cells(set).size() <= cells(best).size())) best = set;
        }
        return best == NONE ? NONE : what == 0 ? cells(best).size() : best;
    }

    int cuts(int robe, int m, int v, int n, int w) {
        if (not(robe, 0, 5)) return UNKNOWN;
        if (not(m, 1, 16) || not(v, 0, 99) || not(n, 1, 16) || not(w, 0, 99)) return OUTSIDE;
        int sum = 0;
        StringBuilder text = new StringBuilder();
        for (int i = 0; i < 16; i++) text.append(all.holes.get(robe).contains(i) ? ' ' : 'x');
        for (String row : text.toString().split(" ")) {
            int best = 0;
            for (int a = 0; a * m <= row.length(); a++) {
                for (int b = 0; a * m + b * n <= row.length(); b++) best = Math.max(best, a * v + b * w);
            }
            sum += best;
        }
        return sum;
    }

    int wear(int occasion) {
        if (not(occasion, -1, 4)) return UNKNOWN;
        int least = Integer.MAX_VALUE;
        int[] best = null;
        for (int code = 0; code < 7776; code++) {
            int[] robes = {code / 1296, code / 216 % 6, code / 36 % 6, code / 6 % 6, code % 6};
            if (Arrays.stream(robes).distinct().count() < 5) continue;
            int sum = 0;
            for (int i = 0; i < 5; i++) {
                TreeSet<Integer> open = cells(all.occasions[i]);
                open.retainAll(all.holes.get(robes[i]));
                sum += open.size();
            }
            if (sum < least) {
                least = sum;
                best = robes;
            }
        }
        return occasion < 0 ? least : best[occasion];
    }

    int seen(int sayings, boolean bitten) {
        if (not(sayings, 1, 1023)) return OUTSIDE;
        if (all.sights.size() == 8) return FULL;
        all.sights.add(bitten ? sayings : -sayings);
        return all.sights.size();
    }

    int forget() {
        int was = all.sights.size();
        all.sights.clear();
        return was;
    }

    private List<TreeSet<Integer>> sets(int m) {
        List<TreeSet<Integer>> sets = new ArrayList<>();
        for (int a = -1; a < 10; a++) {
            for (int b = a < 0 ? -1 : a + 1; b < 10; b++) {
                for (int c = b < 0 ? -1 : b + 1; c < 10; c++) {
                    TreeSet<Integer> set = new TreeSet<>(List.of(-1));
                    set.addAll(Arrays.asList(a, b, c));
                    set.remove(-1);
                    if (set.size() <= m && !sets.contains(set) && fits(set)) sets.add(set);
                }
            }
        }
        return sets;
    }

    private boolean fits(TreeSet<Integer> lies) {
        for (int sight : all.sights) {
            TreeSet<Integer> common = cells(Math.abs(sight));
            common.retainAll(lies);
            if (common.isEmpty() == sight > 0) return false;
        }
        return true;
    }

    int liars(int m, int what) {
        if (not(m, 0, 3) || not(what, 0, 2)) return OUTSIDE;
        List<TreeSet<Integer>> sets = sets(m);
        TreeSet<Integer> some = new TreeSet<>();
        TreeSet<Integer> every = cells(sets.isEmpty() ? 0 : 1023);
        for (TreeSet<Integer> set : sets) {
            some.addAll(set);
            every.retainAll(set);
        }
        return what == 0 ? sets.size() : bits(what == 1 ? some : every);
    }

    int tries(int m, int what) {
        if (not(m, 0, 3) || not(what, 0, 1)) return OUTSIDE;
        List<TreeSet<Integer>> sets = sets(m);
        if (sets.isEmpty()) return NONE;
        int best = -1;
        int least = Integer.MAX_VALUE;
        for (int s = 0; s < 10; s++) {
            int with = 0;
            int without = 0;
            for (TreeSet<Integer> set : sets) {
                if (set.contains(s)) with++;
                else without++;
            }
            if (Math.max(with, without) < least) {
                least = Math.max(with, without);
                best = s;
            }
        }
        return what == 0 ? best : least;
    }

    // Grundy numbers by the game's own definition, row by row.
    private static int nim(int holes) {
        int nim = 0;
        for (String row : Integer.toBinaryString(holes).split("0")) nim ^= NIM[row.length()];
        return nim;
    }

    private static final int[] NIM = new int[17];

    static {
        for (int n = 1; n <= 16; n++) {
            TreeSet<Integer> reached = new TreeSet<>();
            for (int left = 0; left < n; left++) {
                reached.add(NIM[left] ^ NIM[n - 1 - left]);
                if (left < n - 1) reached.add(NIM[left] ^ NIM[n - 2 - left]);
            }
            while (reached.contains(NIM[n])) NIM[n]++;
        }
    }

    int darns(int robe, int what) {
        if (not(robe, 0, 5)) return UNKNOWN;
        if (not(what, 0, 1)) return OUTSIDE;
        int holes = bits(all.holes.get(robe));
        if (what == 0) return nim(holes) == 0 ? 0 : 1;
        for (int move = 0; move < 32; move++) {
            int darned = (1 + move % 2 * 2) << move / 2;
            if ((holes & darned) == darned && nim(holes - darned) == 0) return move;
        }
        return NONE;
    }

    long chance(int n, int t, int k, int part) {
        if (not(n, 0, 16) || not(t, 0, 10) || not(k, 0, 16) || not(part, 0, 1)) return -1000000000000000002L;
        BigInteger some = atLeast(n, t, k);
        BigInteger of = BigInteger.TEN.pow(n);
        return (part == 0 ? some : of).divide(some.gcd(of)).longValueExact();
    }

    private static BigInteger atLeast(int n, int t, int k) {
        if (n == 0) return k <= 0 ? BigInteger.ONE : BigInteger.ZERO;
        if (k <= 0) return BigInteger.TEN.pow(n);
        return atLeast(n - 1, t, k - 1).multiply(BigInteger.valueOf(t))
                .add(atLeast(n - 1, t, k).multiply(BigInteger.valueOf(10 - t)));
    }

    int year(int seed, int m, int what) {
        if (not(seed, 0, 9999) || not(m, 1, 99) || not(what, 0, 2)) return OUTSIDE;
        Outcome o = new Outcome();
        o.all = all.copy();
        int x = seed;
        for (int i = 0; i < m; i++) {
            x = (75 * x + 74) % 65537;
            String robe = "" + (char) ('A' + x % 6);
            String act = switch (x / 6 % 8) {
                case 0 -> robe + "<";
                case 1 -> robe + ">";
                case 2 -> robe + "+";
                case 3 -> robe + "/";
                case 4 -> "" + x / 48 % 10;
                case 7 -> ".";
                default -> "*";
            };
            if (reasons(o.all, act).isEmpty()) act(o, act);
        }
        int whole = 96;
        for (TreeSet<Integer> holes : o.all.holes) whole -= holes.size();
        int lies = 0;
        for (int[] saying : o.all.sayings) lies += saying[2] > 0 ? 1 : 0;
        return new int[] {whole, o.eaten, lies}[what];
    }

    int image(int n) {
        if (not(n, 0, 1)) return OUTSIDE;
        images[n] = all.copy();
        return 1;
    }

    int restore(int n) {
        if (not(n, 0, 1)) return OUTSIDE;
        if (images[n] == null) return STATE;
        all = images[n].copy();
        return 1;
    }

    int told(int what) {
        if (what == 0) return pad.length();
        if (what == 1) return all.year;
        if (what == 2) {
            int sum = 0;
            for (char robe : all.press) sum += 1 << robe - 'A';
            return sum;
        }
        if (what == 3) return all.sights.size();
        if (what == 4) {
            int sum = 0;
            for (int s = 0; s < 10; s++) sum += all.sayings[s][2] > 0 ? 1 << s : 0;
            return sum;
        }
        for (int i = 0; i < 6; i++) {
            if (what == 10 * (1 + i)) return bits(all.holes.get(i));
            if (what == 10 * (1 + i) + 1) return all.camphor[i];
        }
        for (int s = 0; s < 10; s++) {
            for (int item = 0; item < 3; item++) {
                if (what == 100 + 10 * s + item) return all.sayings[s][item];
            }
        }
        return not(what, 200, 204) ? OUTSIDE : all.occasions[what - 200];
    }
}
