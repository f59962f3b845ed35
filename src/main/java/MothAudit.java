/** The family's robes, what was said in them, and what the moths make of it. */
public final class MothAudit {
    public static final int NONE = -6, UNKNOWN = -1, OUTSIDE = -2, STATE = -3, FULL = -4, NO = -5;
    public static final long LOST = -1000000000000000000L;

    private static final int ROBES = 6, CELLS = 16, SAYINGS = 10, OCCASIONS = 5;
    private static final int SIGHTS = 8, IMAGES = 2, SIGNS = 60;
    private static final int ALL_CELLS = 65535, ALL_SAYINGS = 1023;
    private static final int MOST_CAMPHOR = 9, MOST_UNTRUTH = 9, LAST_YEAR = 99;
    private static final int LEAST_SIGN = 33, GREATEST_SIGN = 126;
    private static final int MOST_WORTH = 99, MOST_LIARS = 3;
    private static final int MOST_SEED = 9999, MOST_ACTS = 99;

    // The kinds of acts bear the sign that tells them; that of owning up is any digit.
    private static final int LAY = '<', TAKE = '>', SCENT = '+', MEND = '/';
    private static final int OWN = '0', MOTHS = '*', YEAR_END = '.';

    private final Wardrobe now = new Wardrobe();
    private final Pad pad = new Pad();
    private final Rehearsal trial = new Rehearsal();
    private final Wardrobe[] images = new Wardrobe[IMAGES];
    private final Suspicion suspicion = new Suspicion();
    private final Tailor tailor = new Tailor();
    private final Dresser dresser = new Dresser();
    private final Odds odds = new Odds();

    public MothAudit() {
    }

    // ---- 1 robes, sayings, years

    public int robe(int robe, int holes, int camphor) {
        if (!isRobe(robe)) {
            return UNKNOWN;
        }
        if (!isWithin(holes, 0, ALL_CELLS) || !isWithin(camphor, 0, MOST_CAMPHOR)) {
            return OUTSIDE;
        }
        int before = now.holes[robe];
        now.holes[robe] = holes;
        now.camphor[robe] = camphor;
        now.press &= ~(1 << robe);
        return before;
    }

    public int saying(int saying, int robe, int shape, int much) {
        if (!isSaying(saying) || !isRobe(robe)) {
            return UNKNOWN;
        }
        if (!isWithin(shape, 0, ALL_CELLS) || !isWithin(much, 0, MOST_UNTRUTH)) {
            return OUTSIDE;
        }
        int before = now.untruth[saying];
        now.robeOf[saying] = robe;
        now.shape[saying] = shape;
        now.untruth[saying] = much;
        return before;
    }

    public int occasion(int occasion, int cells) {
        if (!isOccasion(occasion)) {
            return UNKNOWN;
        }
        if (!isWithin(cells, 0, ALL_CELLS)) {
            return OUTSIDE;
        }
        int before = now.shown[occasion];
        now.shown[occasion] = cells;
        return before;
    }

    public int say(int sign) {
        if (!isWithin(sign, LEAST_SIGN, GREATEST_SIGN)) {
            return OUTSIDE;
        }
        if (pad.count >= SIGNS) {
            return FULL;
        }
        pad.add(sign);
        return pad.count;
    }

    public int wipe() {
        int before = pad.count;
        pad.count = 0;
        return before;
    }

    public int fault() {
        return pad.firstFault();
    }

    // ---- 2 years

    public int judge(int what) {
        if (!isWithin(what, 0, 1)) {
            return OUTSIDE;
        }
        if (pad.firstFault() != NONE) {
            return NO;
        }
        rehearse();
        return what == 0 ? trial.stoppedAt : trial.why;
    }

    public int done() {
        if (!canAllBe()) {
            return NO;
        }
        now.copyFrom(trial.wardrobe);
        pad.count = 0;
        return trial.acts;
    }

    public int behind(int robe, int what) {
        if (!isRobe(robe)) {
            return UNKNOWN;
        }
        if (!isWithin(what, 0, 2)) {
            return OUTSIDE;
        }
        if (!canAllBe()) {
            return NO;
        }
        if (what == 0) {
            return trial.wardrobe.holes[robe];
        }
        if (what == 1) {
            return trial.wardrobe.camphor[robe];
        }
        return trial.wardrobe.isInPress(robe) ? 1 : 0;
    }

    public int untrue(int saying) {
        if (!isSaying(saying)) {
            return UNKNOWN;
        }
        if (!canAllBe()) {
            return NO;
        }
        return trial.wardrobe.untruth[saying];
    }

    public int eaten(int what) {
        if (!isWithin(what, 0, 3)) {
            return OUTSIDE;
        }
        if (!canAllBe()) {
            return NO;
        }
        switch (what) {
            case 0:
                return trial.cellsEaten;
            case 1:
                return trial.baredAt;
            case 2:
                return trial.baredRobe;
            default:
                return trial.wardrobe.years;
        }
    }

    // ---- 3 blame, lengths, occasions

    public int blame(int robe, int what) {
        if (!isRobe(robe)) {
            return UNKNOWN;
        }
        if (!isWithin(what, 0, 1)) {
            return OUTSIDE;
        }
        int fewest = Suspicion.fewestToBlame(now, robe);
        if (fewest == NONE) {
            return NONE;
        }
        return what == 0 ? Integer.bitCount(fewest) : fewest;
    }

    public int cuts(int robe, int m, int v, int n, int w) {
        if (!isRobe(robe)) {
            return UNKNOWN;
        }
        if (!isWithin(m, 1, CELLS) || !isWithin(v, 0, MOST_WORTH)) {
            return OUTSIDE;
        }
        if (!isWithin(n, 1, CELLS) || !isWithin(w, 0, MOST_WORTH)) {
            return OUTSIDE;
        }
        return tailor.mostWorth(now.holes[robe], m, v, n, w);
    }

    public int wear(int occasion) {
        if (occasion != -1 && !isOccasion(occasion)) {
            return UNKNOWN;
        }
        dresser.plan(now);
        return occasion == -1 ? dresser.fewestSeen() : dresser.robeFor(occasion);
    }

    // ---- 4 who lied, darning, moths by chance

    public int seen(int sayings, boolean bitten) {
        if (!isWithin(sayings, 1, ALL_SAYINGS)) {
            return OUTSIDE;
        }
        if (now.sightCount >= SIGHTS) {
            return FULL;
        }
        now.addSight(sayings, bitten);
        return now.sightCount;
    }

    public int forget() {
        int before = now.sightCount;
        now.sightCount = 0;
        return before;
    }

    public int liars(int m, int what) {
        if (!isWithin(m, 0, MOST_LIARS) || !isWithin(what, 0, 2)) {
            return OUTSIDE;
        }
        suspicion.weigh(now, m);
        if (what == 0) {
            return suspicion.sets;
        }
        return what == 1 ? suspicion.inSome : suspicion.inAll;
    }

    public int tries(int m, int what) {
        if (!isWithin(m, 0, MOST_LIARS) || !isWithin(what, 0, 1)) {
            return OUTSIDE;
        }
        suspicion.weigh(now, m);
        if (suspicion.sets == 0) {
            return NONE;
        }
        int next = suspicion.sayingToTry();
        return what == 0 ? next : suspicion.mostLeft(next);
    }

    public int darns(int robe, int what) {
        if (!isRobe(robe)) {
            return UNKNOWN;
        }
        if (!isWithin(what, 0, 1)) {
            return OUTSIDE;
        }
        int first = Tailor.winningDarn(now.holes[robe]);
        if (what == 1) {
            return first;
        }
        return first == NONE ? 0 : 1;
    }

    public long chance(int n, int t, int k, int part) {
        if (!isWithin(n, 0, CELLS) || !isWithin(t, 0, 10)) {
            return LOST + OUTSIDE;
        }
        if (!isWithin(k, 0, CELLS) || !isWithin(part, 0, 1)) {
            return LOST + OUTSIDE;
        }
        return odds.partOfAtLeast(n, t, k, part);
    }

    public int year(int seed, int m, int what) {
        if (!isWithin(seed, 0, MOST_SEED) || !isWithin(m, 1, MOST_ACTS) || !isWithin(what, 0, 2)) {
            return OUTSIDE;
        }
        trial.begin(now);
        trial.drawActs(seed, m);
        if (what == 0) {
            return trial.wardrobe.wholeCells();
        }
        return what == 1 ? trial.cellsEaten : Integer.bitCount(trial.wardrobe.falseSayings());
    }

    public int image(int n) {
        if (!isWithin(n, 0, IMAGES - 1)) {
            return OUTSIDE;
        }
        Wardrobe kept = images[n];
        if (kept == null) {
            kept = new Wardrobe();
            images[n] = kept;
        }
        kept.copyFrom(now);
        return 1;
    }

    public int restore(int n) {
        if (!isWithin(n, 0, IMAGES - 1)) {
            return OUTSIDE;
        }
        Wardrobe kept = images[n];
        if (kept == null) {
            return STATE;
        }
        now.copyFrom(kept);
        return 1;
    }

    public int told(int what) {
        if (isWithin(what, 0, 4)) {
            return toldOfAll(what);
        }
        if (isWithin(what, 10, 10 * ROBES + 9)) {
            return toldOfRobe(what / 10 - 1, what % 10);
        }
        if (isWithin(what, 100, 100 + 10 * SAYINGS - 1)) {
            return toldOfSaying((what - 100) / 10, what % 10);
        }
        if (isWithin(what, 200, 200 + OCCASIONS - 1)) {
            return now.shown[what - 200];
        }
        return OUTSIDE;
    }

    private int toldOfAll(int what) {
        switch (what) {
            case 0:
                return pad.count;
            case 1:
                return now.years;
            case 2:
                return now.press;
            case 3:
                return now.sightCount;
            default:
                return now.falseSayings();
        }
    }

    private int toldOfRobe(int robe, int item) {
        if (!isRobe(robe) || !isWithin(item, 0, 1)) {
            return OUTSIDE;
        }
        return item == 0 ? now.holes[robe] : now.camphor[robe];
    }

    private int toldOfSaying(int saying, int item) {
        if (!isSaying(saying)) {
            return OUTSIDE;
        }
        switch (item) {
            case 0:
                return now.robeOf[saying];
            case 1:
                return now.shape[saying];
            case 2:
                return now.untruth[saying];
            default:
                return OUTSIDE;
        }
    }

    private void rehearse() {
        trial.begin(now);
        trial.follow(pad);
    }

    private boolean canAllBe() {
        if (pad.firstFault() != NONE) {
            return false;
        }
        rehearse();
        return trial.stoppedAt == NONE;
    }

    private static boolean isWithin(int number, int least, int most) {
        return least <= number && number <= most;
    }

    private static boolean isRobe(int robe) {
        return 0 <= robe && robe < ROBES;
    }

    private static boolean isSaying(int saying) {
        return 0 <= saying && saying < SAYINGS;
    }

    private static boolean isOccasion(int occasion) {
        return 0 <= occasion && occasion < OCCASIONS;
    }

    private static int leastIn(int set) {
        for (int place = 0; place < 32; place++) {
            if ((set >> place & 1) != 0) {
                return place;
            }
        }
        return NONE;
    }

    /** All that an image keeps: robes, sayings, occasions, sights and the year. */
    private static final class Wardrobe {
        final int[] holes = new int[ROBES];
        final int[] camphor = new int[ROBES];
        int press;
        int years;
        final int[] robeOf = new int[SAYINGS];
        final int[] shape = new int[SAYINGS];
        final int[] untruth = new int[SAYINGS];
        final int[] shown = new int[OCCASIONS];
        final int[] sights = new int[SIGHTS];
        int bittenSights;
        int sightCount;

        void copyFrom(Wardrobe other) {
            System.arraycopy(other.holes, 0, holes, 0, ROBES);
            System.arraycopy(other.camphor, 0, camphor, 0, ROBES);
            press = other.press;
            years = other.years;
            System.arraycopy(other.robeOf, 0, robeOf, 0, SAYINGS);
            System.arraycopy(other.shape, 0, shape, 0, SAYINGS);
            System.arraycopy(other.untruth, 0, untruth, 0, SAYINGS);
            System.arraycopy(other.shown, 0, shown, 0, OCCASIONS);
            System.arraycopy(other.sights, 0, sights, 0, SIGHTS);
            bittenSights = other.bittenSights;
            sightCount = other.sightCount;
        }

        boolean isInPress(int robe) {
            return (press >> robe & 1) != 0;
        }

        int wholeCells() {
            int whole = 0;
            for (int robe = 0; robe < ROBES; robe++) {
                whole += CELLS - Integer.bitCount(holes[robe]);
            }
            return whole;
        }

        int bareRobes() {
            int bare = 0;
            for (int robe = 0; robe < ROBES; robe++) {
                if (holes[robe] == ALL_CELLS) {
                    bare |= 1 << robe;
                }
            }
            return bare;
        }

        int falseSayings() {
            int lies = 0;
            for (int saying = 0; saying < SAYINGS; saying++) {
                if (untruth[saying] > 0) {
                    lies |= 1 << saying;
                }
            }
            return lies;
        }

        int sayingsIn(int robe) {
            int said = 0;
            for (int saying = 0; saying < SAYINGS; saying++) {
                if (robeOf[saying] == robe) {
                    said |= 1 << saying;
                }
            }
            return said;
        }

        int shapeOfAll(int sayings) {
            int cells = 0;
            for (int saying = 0; saying < SAYINGS; saying++) {
                if ((sayings >> saying & 1) != 0) {
                    cells |= shape[saying];
                }
            }
            return cells;
        }

        void addSight(int sayings, boolean bitten) {
            if (sightCount >= SIGHTS) {
                return;
            }
            int place = 1 << sightCount;
            sights[sightCount] = sayings;
            bittenSights = bitten ? bittenSights | place : bittenSights & ~place;
            sightCount++;
        }

        boolean fitsSights(int lies) {
            for (int sight = 0; sight < sightCount && sight < SIGHTS; sight++) {
                boolean bitten = (bittenSights >> sight & 1) != 0;
                if (((sights[sight] & lies) != 0) != bitten) {
                    return false;
                }
            }
            return true;
        }
    }

    /** The signs of which years are told. */
    private static final class Pad {
        final int[] signs = new int[SIGNS];
        int count;

        void add(int sign) {
            if (count < SIGNS) {
                signs[count] = sign;
                count++;
            }
        }

        // 0 behind the last sign: no sign has that code.
        int signAt(int place) {
            return 0 <= place && place < count && place < SIGNS ? signs[place] : 0;
        }

        static boolean isLetter(int sign) {
            return 'A' <= sign && sign < 'A' + ROBES;
        }

        static boolean isDigit(int sign) {
            return '0' <= sign && sign < '0' + SAYINGS;
        }

        static boolean isRobeAct(int sign) {
            return sign == LAY || sign == TAKE || sign == SCENT || sign == MEND;
        }

        int firstFault() {
            for (int place = 0; place < count; place++) {
                int sign = signAt(place);
                if (isLetter(sign)) {
                    place++;
                    // Where the pad ends behind the letter, place is the number of signs.
                    if (!isRobeAct(signAt(place))) {
                        return place;
                    }
                } else if (!isDigit(sign) && sign != MOTHS && sign != YEAR_END) {
                    return place;
                }
            }
            return NONE;
        }

        boolean hasLetterAt(int place) {
            return isLetter(signAt(place));
        }

        int kindAt(int place) {
            int sign = signAt(place);
            if (isLetter(sign)) {
                return signAt(place + 1);
            }
            return isDigit(sign) ? OWN : sign;
        }

        // The robe, or the saying, that an act is of; 0 where it is of all.
        int subjectAt(int place) {
            int sign = signAt(place);
            if (isLetter(sign)) {
                return sign - 'A';
            }
            return isDigit(sign) ? sign - '0' : 0;
        }
    }

    /** Acts carried out on a copy, so that nothing is done in fact. */
    private static final class Rehearsal {
        private static final int[] DRAWN_KINDS = {
            LAY, TAKE, SCENT, MEND, OWN, MOTHS, MOTHS, YEAR_END
        };

        final Wardrobe wardrobe = new Wardrobe();
        int acts;
        int stoppedAt;
        int why;
        int cellsEaten;
        int baredAt;
        int baredRobe;

        void begin(Wardrobe from) {
            wardrobe.copyFrom(from);
            acts = 0;
            stoppedAt = NONE;
            why = NONE;
            cellsEaten = 0;
            baredAt = NONE;
            baredRobe = NONE;
        }

        void follow(Pad pad) {
            for (int place = 0; place < pad.count; place++) {
                int kind = pad.kindAt(place);
                int subject = pad.subjectAt(place);
                if (pad.hasLetterAt(place)) {
                    place++;
                }
                int reason = reasonAgainst(kind, subject);
                if (reason != NONE) {
                    stoppedAt = acts;
                    why = reason;
                    return;
                }
                carryOut(kind, subject);
            }
        }

        void drawActs(int seed, int m) {
            int x = seed;
            for (int draw = 0; draw < m; draw++) {
                x = (75 * x + 74) % 65537;
                int kind = DRAWN_KINDS[x / 6 & 7];
                int subject = kind == OWN ? x / 48 % SAYINGS : x % ROBES;
                if (reasonAgainst(kind, subject) == NONE) {
                    carryOut(kind, subject);
                }
            }
        }

        // The least of the document's reasons why an act can not be.
        int reasonAgainst(int kind, int subject) {
            if (Pad.isRobeAct(kind)) {
                return isRobe(subject) ? reasonAgainstRobeAct(kind, subject) : NONE;
            }
            if (kind == OWN) {
                return isSaying(subject) && wardrobe.untruth[subject] == 0 ? 4 : NONE;
            }
            if (kind == MOTHS) {
                return wardrobe.press == 0 ? 5 : NONE;
            }
            return wardrobe.years >= LAST_YEAR ? 6 : NONE;
        }

        private int reasonAgainstRobeAct(int kind, int robe) {
            boolean lies = wardrobe.isInPress(robe);
            if (kind == LAY) {
                return lies ? 1 : NONE;
            }
            if (kind == TAKE) {
                return lies ? NONE : 1;
            }
            if (lies) {
                return 2;
            }
            if (kind == SCENT) {
                return wardrobe.camphor[robe] >= MOST_CAMPHOR ? 3 : NONE;
            }
            return wardrobe.holes[robe] == 0 ? 3 : NONE;
        }

        void carryOut(int kind, int subject) {
            if (Pad.isRobeAct(kind)) {
                if (isRobe(subject)) {
                    carryOutOnRobe(kind, subject);
                }
            } else if (kind == OWN) {
                if (isSaying(subject)) {
                    wardrobe.untruth[subject] = 0;
                }
            } else if (kind == MOTHS) {
                letMothsIn();
            } else {
                endYear();
            }
            acts++;
        }

        private void carryOutOnRobe(int kind, int robe) {
            if (kind == LAY) {
                wardrobe.press |= 1 << robe;
            } else if (kind == TAKE) {
                wardrobe.press &= ~(1 << robe);
            } else if (kind == SCENT) {
                wardrobe.camphor[robe]++;
            } else {
                wardrobe.holes[robe] &= wardrobe.holes[robe] - 1;
            }
        }

        private void letMothsIn() {
            int bareBefore = wardrobe.bareRobes();
            for (int saying = 0; saying < SAYINGS; saying++) {
                int robe = wardrobe.robeOf[saying];
                if (isRobe(robe) && wardrobe.isInPress(robe)) {
                    eat(robe, wardrobe.shape[saying], wardrobe.untruth[saying] - wardrobe.camphor[robe]);
                }
            }
            int bared = wardrobe.bareRobes() & ~bareBefore;
            if (bared != 0 && baredAt == NONE) {
                baredAt = acts;
                baredRobe = leastIn(bared);
            }
        }

        private void eat(int robe, int shape, int most) {
            int whole = shape & ~wardrobe.holes[robe];
            for (int bite = 0; bite < most && whole != 0; bite++) {
                int least = whole & -whole;
                wardrobe.holes[robe] |= least;
                whole ^= least;
                cellsEaten++;
            }
        }

        private void endYear() {
            wardrobe.years++;
            for (int robe = 0; robe < ROBES; robe++) {
                wardrobe.camphor[robe] = Math.max(wardrobe.camphor[robe] - 1, 0);
            }
        }
    }

    /** Which sayings the holes may be of, and which sets of liars fit the sights. */
    private static final class Suspicion {
        final int[] setsWith = new int[SAYINGS];
        int sets;
        int inSome;
        int inAll;

        static int fewestToBlame(Wardrobe wardrobe, int robe) {
            int said = wardrobe.sayingsIn(robe);
            int fewest = NONE;
            for (int set = 0; set <= ALL_SAYINGS; set++) {
                boolean fewer = fewest == NONE || Integer.bitCount(set) < Integer.bitCount(fewest);
                if (fewer && (set & ~said) == 0
                        && (wardrobe.holes[robe] & ~wardrobe.shapeOfAll(set)) == 0) {
                    fewest = set;
                }
            }
            return fewest;
        }

        void weigh(Wardrobe wardrobe, int m) {
            sets = 0;
            inSome = 0;
            inAll = ALL_SAYINGS;
            for (int saying = 0; saying < SAYINGS; saying++) {
                setsWith[saying] = 0;
            }
            for (int set = 0; set <= ALL_SAYINGS; set++) {
                if (Integer.bitCount(set) <= m && wardrobe.fitsSights(set)) {
                    count(set);
                }
            }
            if (sets == 0) {
                inAll = 0;
            }
        }

        private void count(int set) {
            sets++;
            inSome |= set;
            inAll &= set;
            for (int saying = 0; saying < SAYINGS; saying++) {
                setsWith[saying] += set >> saying & 1;
            }
        }

        // Bitten leaves the sets that have the saying, not bitten those that have not.
        int mostLeft(int saying) {
            return isSaying(saying) ? Math.max(setsWith[saying], sets - setsWith[saying]) : sets;
        }

        int sayingToTry() {
            int best = 0;
            for (int saying = 1; saying < SAYINGS; saying++) {
                if (mostLeft(saying) < mostLeft(best)) {
                    best = saying;
                }
            }
            return best;
        }
    }

    /** Lengths cut out of what is left, and the game of darning. */
    private static final class Tailor {
        // To darn one hole or two side by side is the game of Kayles:
        // by length of a row of holes, the heap of Nim that it is worth.
        private static final int[] NIM_OF_ROW = {
            0, 1, 2, 3, 1, 4, 3, 2, 1, 4, 2, 6, 4, 1, 2, 7, 1
        };

        // By cells from the left: the most that lengths cut out of these are worth.
        final int[] most = new int[CELLS + 1];

        int mostWorth(int holes, int m, int v, int n, int w) {
            int whole = 0;
            most[0] = 0;
            for (int cell = 0; cell < CELLS; cell++) {
                int end = cell + 1;
                whole = (holes >> cell & 1) == 0 ? whole + 1 : 0;
                most[end] = most[cell];
                if (0 < m && m <= whole && m <= end) {
                    most[end] = Math.max(most[end], most[end - m] + v);
                }
                if (0 < n && n <= whole && n <= end) {
                    most[end] = Math.max(most[end], most[end - n] + w);
                }
            }
            return most[CELLS];
        }

        static int winningDarn(int holes) {
            for (int cell = 0; cell < CELLS; cell++) {
                int one = 1 << cell;
                int two = 3 << cell;
                if ((holes & one) != 0 && nimOf(holes & ~one) == 0) {
                    return 2 * cell;
                }
                if ((holes & two) == two && nimOf(holes & ~two) == 0) {
                    return 2 * cell + 1;
                }
            }
            return NONE;
        }

        private static int nimOf(int holes) {
            int nim = 0;
            int row = 0;
            for (int cell = 0; cell < CELLS; cell++) {
                if ((holes >> cell & 1) != 0) {
                    row++;
                } else {
                    nim ^= nimOfRow(row);
                    row = 0;
                }
            }
            return nim ^ nimOfRow(row);
        }

        private static int nimOfRow(int row) {
            return 0 <= row && row < NIM_OF_ROW.length ? NIM_OF_ROW[row] : 0;
        }
    }

    /** What to wear for which occasion. */
    private static final class Dresser {
        private static final int ALL_ROBES = (1 << ROBES) - 1;

        // By set of robes, worn on as many of the first occasions: the fewest holes
        // that are seen on the occasions behind these, and the robe of the next one.
        final int[] fewest = new int[ALL_ROBES + 1];
        final int[] next = new int[ALL_ROBES + 1];

        void plan(Wardrobe wardrobe) {
            for (int worn = ALL_ROBES; worn >= 0; worn--) {
                planBehind(wardrobe, worn);
            }
        }

        private void planBehind(Wardrobe wardrobe, int worn) {
            int occasion = Integer.bitCount(worn);
            fewest[worn] = 0;
            next[worn] = NONE;
            if (occasion >= OCCASIONS) {
                return;
            }
            for (int robe = 0; robe < ROBES; robe++) {
                if ((worn >> robe & 1) == 0) {
                    int holes = wardrobe.holes[robe] & wardrobe.shown[occasion];
                    int cost = Integer.bitCount(holes) + fewest[worn | 1 << robe];
                    if (next[worn] == NONE || cost < fewest[worn]) {
                        fewest[worn] = cost;
                        next[worn] = robe;
                    }
                }
            }
        }

        int fewestSeen() {
            return fewest[0];
        }

        int robeFor(int asked) {
            int worn = 0;
            for (int occasion = 0; occasion < asked; occasion++) {
                worn |= 1 << next[worn & ALL_ROBES];
            }
            return next[worn & ALL_ROBES];
        }
    }

    /** How likely moths by chance are to eat so many cells. */
    private static final class Odds {
        // By cells eaten: how many of 10, 100, 1000 .. equal ways lead there.
        final long[] ways = new long[CELLS + 1];

        long partOfAtLeast(int n, int t, int k, int part) {
            long all = countWays(n, t);
            long some = 0;
            for (int eaten = k; eaten <= n && eaten <= CELLS; eaten++) {
                some += ways[eaten];
            }
            long divisor = greatestDivisor(all, some);
            if (divisor < 1) {
                return LOST + OUTSIDE;
            }
            return (part == 0 ? some : all) / divisor;
        }

        private long countWays(int n, int t) {
            long all = 1;
            for (int eaten = 0; eaten <= CELLS; eaten++) {
                ways[eaten] = eaten == 0 ? 1 : 0;
            }
            for (int cell = 0; cell < n && cell < CELLS; cell++) {
                all *= 10;
                for (int eaten = cell + 1; eaten > 0; eaten--) {
                    ways[eaten] = ways[eaten] * (10 - t) + ways[eaten - 1] * t;
                }
                ways[0] *= 10 - t;
            }
            return all;
        }

        // Below 10 to the 16th, Euclid needs fewer than eighty steps.
        private static long greatestDivisor(long greater, long lesser) {
            long a = greater;
            long b = lesser;
            for (int step = 0; step < 200 && b != 0; step++) {
                long rest = a % b;
                a = b;
                b = rest;
            }
            return a;
        }
    }
}
