import java.util.Arrays;

/**
 * Ladybirds of a hop county, who sit on those who have been through something and are counted, so
 * that nobody is asked how they are. README.md says how to use it.
 */
public final class SorrowSpots {
    public static final int BAD = -1, STATE = -2, FULL = -3, NONE = -4;

    private static final int RED = 0, YELLOW = 1, ORPHAN = 2, PIN = 3;
    private static final int KINDS = 4, MOST_PEOPLE = 4, MOST_BEETLES = 6, WINDS = 6;
    private static final int LAST_PLACE = 9, MOST_SPOTS = 9, STRONGEST = 9;
    private static final int FIRST_DAY_TOO_LATE = 1000, MOST_DAYS = 30, FARTHEST = 60;
    private static final int MOST_SEEN = 6, SEEN_FARTHEST = 20, MOST_COUNTED_SEEN = 99;
    private static final int OUT_OF = 10, ODDS_FARTHEST = 8;
    private static final int IMAGES = 2;
    private static final int TAPE_BYTES = 160, LAST_BYTE = 127;
    private static final int SHEETS = 4, LAST_LANE = 2, BYTES = 0, SHORTS = 1, MOST_CELLS = 40;
    private static final int MOST_READ = 13, CELLS_A_BEETLE = 3;
    private static final int NO_FAULT = 0, NULL = 1, INDEX = 2, CAST = 3, SIZE = 4;
    private static final int FAULT_BASE = -10, AIR_BASE = -10, DAB_BASE = -20;

    private final Tape tape = new Tape();
    private final Teller teller = new Teller(tape);
    private final County now = new County();
    private final Seen seen = new Seen();
    // What would be is run in these, so that a call makes nothing new.
    private final County trial = new County();
    private final County[] futures = new County[ODDS_FARTHEST + 1];
    private final int[] looks = new int[MOST_PEOPLE];
    private final Image[] images = new Image[IMAGES];
    private final Sheet[] sheets = new Sheet[SHEETS];
    private int latestTear = NO_FAULT;

    public SorrowSpots() {
        for (int i = 0; i < futures.length; i++) {
            futures[i] = new County();
        }
        for (int i = 0; i < images.length; i++) {
            images[i] = new Image();
        }
        for (int i = 0; i < sheets.length; i++) {
            sheets[i] = new Sheet();
        }
    }

    // ---- the text

    public int feed(int c) {
        if (!isWithin(c, 0, LAST_BYTE)) {
            return BAD;
        }
        return tape.append(c) ? tape.length : FULL;
    }

    public int end(int n) {
        if (!isWithin(n, 0, tape.length)) {
            return BAD;
        }
        int had = tape.length;
        tape.length = n;
        return had;
    }

    public int text() {
        boolean taken = teller.takeText();
        tape.length = 0;
        if (!taken) {
            return FAULT_BASE - teller.faultAt;
        }
        now.copyFrom(teller.told);
        seen.many = 0;
        for (int i = 0; i < images.length; i++) {
            images[i].isKept = false;
        }
        return teller.lines;
    }

    public int fault() {
        return teller.fault;
    }

    public int rule(int what) {
        switch (what) {
            case 0:
                return now.people;
            case 1:
                return now.beetles;
            case 2:
                return now.day;
            case 3:
                return now.sitting();
            case 4:
                return now.countedOfAll();
            case 5:
                return now.mostCounted();
            default:
                return BAD;
        }
    }

    public int one(int p, int what) {
        if (!now.hasOne(p)) {
            return BAD;
        }
        switch (what) {
            case 0:
                return now.place[p];
            case 1:
                return now.sittersOn(p);
            case 2:
                return now.counted(p);
            case 3:
                return now.countedByPins(p);
            default:
                return BAD;
        }
    }

    public int beetle(int b, int what) {
        if (!now.hasBeetle(b)) {
            return BAD;
        }
        switch (what) {
            case 0:
                return now.kind[b];
            case 1:
                return now.spots[b];
            case 2:
                return now.owner[b];
            case 3:
                return now.placeOf(b);
            case 4:
                return now.on[b];
            case 5:
                return now.sought(b);
            case 6:
                return now.weight(b);
            default:
                return BAD;
        }
    }

    public int wind(int k) {
        return isWithin(k, 0, WINDS - 1) ? now.wind[k] : BAD;
    }

    public int meet(int p, int q) {
        if (!now.hasOne(p) || !now.hasOne(q) || p == q) {
            return BAD;
        }
        int ofP = now.counted(p);
        int ofQ = now.counted(q);
        if (ofP == ofQ) {
            return NONE;
        }
        return ofP < ofQ ? p : q;
    }

    // ---- what is changed

    public int alter(int b, int what, int v) {
        if (!now.hasBeetle(b)) {
            return BAD;
        }
        int was;
        if (what == 0 && isKind(v)) {
            was = now.kind[b];
            now.kind[b] = v;
        } else if (what == 1 && isWithin(v, 1, MOST_SPOTS)) {
            was = now.spots[b];
            now.spots[b] = v;
        } else if (what == 2 && now.hasOne(v)) {
            was = now.owner[b];
            now.owner[b] = v;
        } else {
            return BAD;
        }
        return was;
    }

    public int walk(int p, int v) {
        if (!now.hasOne(p) || !isWithin(v, 0, LAST_PLACE)) {
            return BAD;
        }
        int was = now.place[p];
        now.place[p] = v;
        return was;
    }

    public int blow(int k, int v) {
        if (!isWithin(k, 0, WINDS - 1) || !isWithin(v, 0, STRONGEST)) {
            return BAD;
        }
        int was = now.wind[k];
        now.wind[k] = v;
        return was;
    }

    public int dab(int kind, int spots, int owner) {
        return now.takeDabbed(kind, spots, owner);
    }

    public int lift(int b, int v) {
        if (!now.hasBeetle(b) || !isWithin(v, 0, LAST_PLACE)) {
            return BAD;
        }
        if (!now.sits(b)) {
            return STATE;
        }
        int was = now.on[b];
        now.putInAir(b, v);
        return was;
    }

    // ---- days

    public int days(int n) {
        if (!isWithin(n, 0, MOST_DAYS)) {
            return BAD;
        }
        if (now.day + n >= FIRST_DAY_TOO_LATE) {
            return FULL;
        }
        now.landings = 0;
        now.passDays(n);
        return now.landings;
    }

    public int runs(int n, int what) {
        if (!isWithin(n, 0, FARTHEST) || !isWithin(what, 0, 3)) {
            return BAD;
        }
        trial.copyFrom(now);
        if (what == 3) {
            return trial.daysTillAllSit(n);
        }
        trial.passDays(n);
        if (what == 0) {
            return trial.sitting();
        }
        return what == 1 ? trial.countedOfAll() : trial.flights;
    }

    public int ahead(int p, int n) {
        if (!now.hasOne(p) || !isWithin(n, 0, FARTHEST)) {
            return BAD;
        }
        trial.copyFrom(now);
        trial.passDays(n);
        return trial.counted(p);
    }

    public int where(int b, int n) {
        if (!now.hasBeetle(b) || !isWithin(n, 0, FARTHEST)) {
            return BAD;
        }
        trial.copyFrom(now);
        trial.passDays(n);
        return trial.sits(b) ? trial.on[b] : AIR_BASE - trial.placeOf(b);
    }

    public int home(int b) {
        if (!now.hasBeetle(b)) {
            return BAD;
        }
        trial.copyFrom(now);
        return trial.daysTillSits(b, FARTHEST);
    }

    // ---- what is best

    public int shed(int p, int n, int what) {
        if (!now.hasOne(p) || !isWithin(n, 0, FARTHEST) || !isWithin(what, 0, 1)) {
            return BAD;
        }
        int best = NONE;
        int least = 0;
        for (int v = 0; v <= LAST_PLACE; v++) {
            trial.copyFrom(now);
            trial.place[p] = v;
            trial.passDays(n);
            int counted = trial.counted(p);
            if (best == NONE || counted < least) {
                best = v;
                least = counted;
            }
        }
        return what == 0 ? best : least;
    }

    public int calm(int n, int what) {
        if (!isWithin(n, 0, FARTHEST) || !isWithin(what, 0, 1)) {
            return BAD;
        }
        trial.copyFrom(now);
        trial.passDays(n);
        int best = NONE;
        int most = trial.sitting();
        for (int k = 0; k < WINDS; k++) {
            trial.copyFrom(now);
            trial.wind[k] = 0;
            trial.passDays(n);
            int sitting = trial.sitting();
            if (sitting > most) {
                best = k;
                most = sitting;
            }
        }
        return what == 0 || best == NONE ? best : most;
    }

    public int kind(int b, int what) {
        if (!now.hasBeetle(b) || !isWithin(what, 0, 1)) {
            return BAD;
        }
        int best = NONE;
        int soonest = NONE;
        for (int k = 0; k < KINDS; k++) {
            trial.copyFrom(now);
            trial.kind[b] = k;
            int days = trial.daysTillSits(b, FARTHEST);
            if (days != NONE && (best == NONE || days < soonest)) {
                best = k;
                soonest = days;
            }
        }
        return what == 0 ? best : soonest;
    }

    public int swap(int n, int what) {
        if (!isWithin(n, 0, FARTHEST) || !isWithin(what, 0, 1)) {
            return BAD;
        }
        trial.copyFrom(now);
        trial.passDays(n);
        int best = NONE;
        int most = trial.countedOfAll();
        for (int p = 0; p < now.people; p++) {
            for (int q = p + 1; q < now.people; q++) {
                trial.copyFrom(now);
                trial.place[p] = now.place[q];
                trial.place[q] = now.place[p];
                trial.passDays(n);
                int counted = trial.countedOfAll();
                if (counted > most) {
                    best = 10 * p + q;
                    most = counted;
                }
            }
        }
        return what == 0 || best == NONE ? best : most;
    }

    public int need(int b, int p, int n) {
        if (!now.hasBeetle(b) || !now.hasOne(p) || !isWithin(n, 0, FARTHEST)) {
            return BAD;
        }
        for (int spots = 1; spots <= MOST_SPOTS; spots++) {
            trial.copyFrom(now);
            trial.spots[b] = spots;
            trial.passDays(n);
            if (trial.allMakeWayFor(p)) {
                return spots;
            }
        }
        return NONE;
    }

    public int off(int p, int n, int what) {
        if (!now.hasOne(p) || !isWithin(n, 0, FARTHEST) || !isWithin(what, 0, 1)) {
            return BAD;
        }
        trial.copyFrom(now);
        trial.passDays(n);
        int best = NONE;
        int least = trial.counted(p);
        for (int b = 0; b < now.beetles; b++) {
            trial.copyFrom(now);
            trial.takeAway(b);
            trial.passDays(n);
            int counted = trial.counted(p);
            if (counted < least) {
                best = b;
                least = counted;
            }
        }
        return what == 0 || best == NONE ? best : least;
    }

    // ---- still days by odds

    public long luck(int v, int b, int n, int what) {
        return now.hasBeetle(b) ? byOdds(v, n, what, false, b) : BAD;
    }

    public long mean(int v, int p, int n, int what) {
        return now.hasOne(p) ? byOdds(v, n, what, true, p) : BAD;
    }

    // ---- whose it is

    public int see(int n, int p, int v) {
        if (!isWithin(n, 0, SEEN_FARTHEST) || !now.hasOne(p)) {
            return BAD;
        }
        if (!isWithin(v, 0, MOST_COUNTED_SEEN)) {
            return BAD;
        }
        return seen.append(n, p, v) ? seen.many : FULL;
    }

    public int forget(int n) {
        if (!isWithin(n, 0, seen.many)) {
            return BAD;
        }
        int had = seen.many;
        seen.many = n;
        return had;
    }

    public int owners(int b) {
        return now.hasBeetle(b) ? fittingOwners(b) : BAD;
    }

    public int kinds(int b) {
        if (!now.hasBeetle(b)) {
            return BAD;
        }
        int fitting = 0;
        for (int k = 0; k < KINDS; k++) {
            trial.copyFrom(now);
            trial.kind[b] = k;
            if (seen.isAsIn(trial)) {
                fitting |= 1 << k;
            }
        }
        return fitting;
    }

    public int ask(int b, int what) {
        if (!now.hasBeetle(b) || !isWithin(what, 0, 1)) {
            return BAD;
        }
        int possible = fittingOwners(b);
        for (int o = 0; o < now.people; o++) {
            futures[o].copyFrom(now);
            futures[o].owner[b] = o;
        }
        int best = NONE;
        int fewest = Integer.bitCount(possible);
        for (int n = 0; n <= SEEN_FARTHEST; n++) {
            for (int p = 0; p < now.people; p++) {
                int left = mostLeftBy(p, possible);
                if (left < fewest) {
                    best = 10 * n + p;
                    fewest = left;
                }
            }
            for (int o = 0; o < now.people; o++) {
                futures[o].passDay(futures[o].windToday());
            }
        }
        return what == 0 || best == NONE ? best : fewest;
    }

    // ---- by a seed

    public int drift(int seed, int n, int what) {
        if (!isWithin(n, 1, FARTHEST) || !isWithin(what, 0, 1)) {
            return BAD;
        }
        if (now.beetles == 0) {
            return STATE;
        }
        trial.copyFrom(now);
        int grain = seed;
        for (int i = 0; i < n; i++) {
            grain = grain * 1103515245 + 12345;
            trial.passDay((grain >>> 16 & 0x7fff) % 10);
        }
        return what == 0 ? trial.landings : trial.countedOfAll();
    }

    // ---- images, sheets

    public int keep(int k) {
        if (!isWithin(k, 0, IMAGES - 1)) {
            return BAD;
        }
        int was = images[k].isKept ? 1 : 0;
        images[k].county.copyFrom(now);
        images[k].seen.copyFrom(seen);
        images[k].isKept = true;
        return was;
    }

    public int back(int k) {
        if (!isWithin(k, 0, IMAGES - 1)) {
            return BAD;
        }
        if (!images[k].isKept) {
            return STATE;
        }
        now.copyFrom(images[k].county);
        seen.copyFrom(images[k].seen);
        return now.day;
    }

    public int sheet(int k, int lane, int n) {
        if (!isWithin(k, 0, SHEETS - 1) || !isWithin(lane, 0, LAST_LANE) || n > MOST_CELLS) {
            return BAD;
        }
        if (n < 0) {
            return FAULT_BASE - SIZE;
        }
        sheets[k].renew(lane, n);
        return 1;
    }

    public int lay(int k, int i, int v) {
        if (!isWithin(k, 0, SHEETS - 1)) {
            return BAD;
        }
        int tear = sheets[k].faultAt(sheets[k].lane, i);
        if (tear != NO_FAULT) {
            return FAULT_BASE - tear;
        }
        sheets[k].put(i, v);
        return 1;
    }

    public int read(int k, int lane, int f, int n) {
        if (!isWithin(k, 0, SHEETS - 1) || !isWithin(lane, 0, LAST_LANE)) {
            return BAD;
        }
        if (!isWithin(n, 0, MOST_READ)) {
            return BAD;
        }
        trial.copyFrom(now);
        int came = 0;
        int tear = NO_FAULT;
        for (int i = 0; i < n && tear == NO_FAULT; i++) {
            tear = sheets[k].faultAt(lane, f + CELLS_A_BEETLE * i, CELLS_A_BEETLE);
            if (tear == NO_FAULT) {
                if (!dabFromSheet(sheets[k], f + CELLS_A_BEETLE * i)) {
                    return DAB_BASE - i;
                }
                came++;
            }
        }
        now.copyFrom(trial);
        latestTear = tear;
        return came;
    }

    public int torn() {
        return latestTear;
    }

    public int count(int what) {
        switch (what) {
            case 0:
                return seen.many;
            case 1:
                return imagesKept();
            case 2:
                return tape.length;
            case 3:
                return sheets[0].cells;
            case 4:
                return now.spotsOfAll();
            case 5:
                return now.allWinds();
            default:
                return BAD;
        }
    }

    // ---- what the calls share

    private static boolean isWithin(int v, int least, int most) {
        return v >= least && v <= most;
    }

    private static boolean isKind(int v) {
        return isWithin(v, 0, KINDS - 1);
    }

    /** The OWNERS (bits) of a BEETLE by which all is as SEEN. */
    private int fittingOwners(int b) {
        int fitting = 0;
        for (int o = 0; o < now.people; o++) {
            trial.copyFrom(now);
            trial.owner[b] = o;
            if (seen.isAsIn(trial)) {
                fitting |= 1 << o;
            }
        }
        return fitting;
    }

    /** How many of the possible owners a look at a ONE leaves at the worst; future o is by owner o. */
    private int mostLeftBy(int p, int possible) {
        for (int o = 0; o < now.people; o++) {
            looks[o] = futures[o].counted(p);
        }
        int most = 0;
        for (int o = 0; o < now.people; o++) {
            int alike = 0;
            for (int other = 0; other < now.people; other++) {
                if ((possible >> other & 1) == 1 && looks[other] == looks[o]) {
                    alike++;
                }
            }
            if ((possible >> o & 1) == 1) {
                most = Math.max(most, alike);
            }
        }
        return most;
    }

    private long byOdds(int v, int n, int what, boolean isCounted, int who) {
        if (!isWithin(v, 0, OUT_OF) || !isWithin(n, 0, ODDS_FARTHEST) || !isWithin(what, 0, 1)) {
            return BAD;
        }
        futures[0].copyFrom(now);
        return fractionOfTens(sumOverFutures(futures, 0, n, v, isCounted, who), n, what);
    }

    /**
     * What is asked (COUNTED of a ONE; or 1 if a BEETLE SITS, else 0), summed over all futures behind
     * n days, each as many times as its odds are out of 10 to the days to come; futures[depth] is how
     * it is behind depth days.
     */
    private static long sumOverFutures(
            County[] futures, int depth, int n, int v, boolean isCounted, int who) {
        County here = futures[depth];
        if (depth >= n || depth + 1 >= futures.length) {
            if (isCounted) {
                return here.counted(who);
            }
            return here.sits(who) ? 1 : 0;
        }
        County next = futures[depth + 1];
        long sum = 0;
        if (v > 0) {
            next.copyFrom(here);
            next.passDay(0);
            sum += v * sumOverFutures(futures, depth + 1, n, v, isCounted, who);
        }
        if (v < OUT_OF) {
            next.copyFrom(here);
            next.passDay(here.windToday());
            sum += (OUT_OF - v) * sumOverFutures(futures, depth + 1, n, v, isCounted, who);
        }
        return sum;
    }

    /** The numerator (what 0) or the denominator (1) of sum by 10 to the n in lowest terms. */
    private static long fractionOfTens(long sum, int n, int what) {
        long above = sum;
        long below = 1;
        for (int i = 0; i < n; i++) {
            below *= OUT_OF;
        }
        // 2 and 5 are all that a power of ten can share with anything.
        for (int i = 0; i < n; i++) {
            if (above % 2 == 0 && below % 2 == 0) {
                above /= 2;
                below /= 2;
            }
            if (above % 5 == 0 && below % 5 == 0) {
                above /= 5;
                below /= 5;
            }
        }
        return what == 0 ? above : below;
    }

    private boolean dabFromSheet(Sheet sheet, int f) {
        return trial.takeDabbed(sheet.row[f], sheet.row[f + 1], sheet.row[f + 2]) >= 0;
    }

    private int imagesKept() {
        int kept = 0;
        for (int i = 0; i < images.length; i++) {
            if (images[i].isKept) {
                kept++;
            }
        }
        return kept;
    }

    /** PEOPLE, BEETLES, WINDS, DAY: all that goes on from DAY to DAY. */
    private static final class County {
        private int people = 0;
        private int beetles = 0;
        private int day = 0;
        // Both since this was copied from another, or since they were set to 0.
        private int flights = 0;
        private int landings = 0;
        private final int[] place = new int[MOST_PEOPLE];
        private final int[] kind = new int[MOST_BEETLES];
        private final int[] spots = new int[MOST_BEETLES];
        private final int[] owner = new int[MOST_BEETLES];
        // on whom it SITS; NONE: it is in the air, at airPlace
        private final int[] on = new int[MOST_BEETLES];
        private final int[] airPlace = new int[MOST_BEETLES];
        private final int[] wind = new int[WINDS];

        private void clear() {
            people = 0;
            beetles = 0;
            day = 0;
            flights = 0;
            landings = 0;
            Arrays.fill(wind, 0);
        }

        private void copyFrom(County other) {
            people = other.people;
            beetles = other.beetles;
            day = other.day;
            flights = 0;
            landings = 0;
            System.arraycopy(other.place, 0, place, 0, MOST_PEOPLE);
            System.arraycopy(other.kind, 0, kind, 0, MOST_BEETLES);
            System.arraycopy(other.spots, 0, spots, 0, MOST_BEETLES);
            System.arraycopy(other.owner, 0, owner, 0, MOST_BEETLES);
            System.arraycopy(other.on, 0, on, 0, MOST_BEETLES);
            System.arraycopy(other.airPlace, 0, airPlace, 0, MOST_BEETLES);
            System.arraycopy(other.wind, 0, wind, 0, WINDS);
        }

        private boolean hasOne(int p) {
            return p >= 0 && p < people;
        }

        private boolean hasBeetle(int b) {
            return b >= 0 && b < beetles;
        }

        private boolean hasRoomForOne() {
            return people < MOST_PEOPLE;
        }

        private boolean hasRoomForBeetle() {
            return beetles < MOST_BEETLES;
        }

        private void addOne(int where) {
            if (hasRoomForOne()) {
                place[people] = where;
                people++;
            }
        }

        /** A BEETLE more, in the air; its owner may be a ONE who is still to come. */
        private void addBeetle(int itsKind, int itsSpots, int itsOwner, int where) {
            if (hasRoomForBeetle()) {
                kind[beetles] = itsKind;
                spots[beetles] = itsSpots;
                owner[beetles] = itsOwner;
                on[beetles] = NONE;
                airPlace[beetles] = where;
                beetles++;
            }
        }

        /** What dab() answers. */
        private int takeDabbed(int itsKind, int itsSpots, int itsOwner) {
            if (!isKind(itsKind) || !isWithin(itsSpots, 1, MOST_SPOTS) || !hasOne(itsOwner)) {
                return BAD;
            }
            if (!hasRoomForBeetle()) {
                return FULL;
            }
            int b = beetles;
            addBeetle(itsKind, itsSpots, itsOwner, place[itsOwner]);
            on[b] = itsOwner;
            return beetles;
        }

        private void takeAway(int b) {
            for (int i = b; i + 1 < beetles; i++) {
                kind[i] = kind[i + 1];
                spots[i] = spots[i + 1];
                owner[i] = owner[i + 1];
                on[i] = on[i + 1];
                airPlace[i] = airPlace[i + 1];
            }
            beetles--;
        }

        private boolean sits(int b) {
            return on[b] != NONE;
        }

        private void putInAir(int b, int where) {
            on[b] = NONE;
            airPlace[b] = where;
        }

        private int placeOf(int b) {
            return sits(b) ? place[on[b]] : airPlace[b];
        }

        private int weight(int b) {
            int half = (spots[b] + 1) / 2;
            switch (kind[b]) {
                case YELLOW:
                    return half;
                case ORPHAN:
                    return half + 1;
                case PIN:
                    return 2 * spots[b];
                default:
                    return spots[b];
            }
        }

        private int pace(int b) {
            switch (kind[b]) {
                case YELLOW:
                    return 2;
                case PIN:
                    return 3;
                default:
                    return 1;
            }
        }

        /** The ONE whom a BEETLE SEEKS as all is just then. */
        private int sought(int b) {
            if (kind[b] == YELLOW) {
                return owner[b] + 1 < people ? owner[b] + 1 : 0;
            }
            if (kind[b] != ORPHAN) {
                return owner[b];
            }
            int first = 0;
            int least = counted(first);
            for (int p = 1; p < people; p++) {
                int counted = counted(p);
                if (counted < least) {
                    first = p;
                    least = counted;
                }
            }
            return first;
        }

        private int counted(int p) {
            int sum = 0;
            for (int b = 0; b < beetles; b++) {
                if (on[b] == p) {
                    sum += weight(b);
                }
            }
            return sum;
        }

        private int countedByPins(int p) {
            int sum = 0;
            for (int b = 0; b < beetles; b++) {
                if (on[b] == p && kind[b] == PIN) {
                    sum += weight(b);
                }
            }
            return sum;
        }

        private int countedOfAll() {
            int sum = 0;
            for (int p = 0; p < people; p++) {
                sum += counted(p);
            }
            return sum;
        }

        private int mostCounted() {
            int best = NONE;
            int most = 0;
            for (int p = 0; p < people; p++) {
                int counted = counted(p);
                if (counted > most) {
                    best = p;
                    most = counted;
                }
            }
            return best;
        }

        private boolean allMakeWayFor(int p) {
            for (int q = 0; q < people; q++) {
                if (q != p && counted(q) >= counted(p)) {
                    return false;
                }
            }
            return true;
        }

        private int sittersOn(int p) {
            int bits = 0;
            for (int b = 0; b < beetles; b++) {
                if (on[b] == p) {
                    bits |= 1 << b;
                }
            }
            return bits;
        }

        private int sitting() {
            int many = 0;
            for (int b = 0; b < beetles; b++) {
                if (sits(b)) {
                    many++;
                }
            }
            return many;
        }

        private int spotsOfAll() {
            int sum = 0;
            for (int b = 0; b < beetles; b++) {
                sum += spots[b];
            }
            return sum;
        }

        private int allWinds() {
            int sum = 0;
            for (int k = 0; k < WINDS; k++) {
                sum += wind[k];
            }
            return sum;
        }

        private void passDays(int n) {
            for (int i = 0; i < n; i++) {
                passDay(windToday());
            }
        }

        private int windToday() {
            return wind[day % WINDS];
        }

        /** A DAY whose WIND is as strong as told here. */
        private void passDay(int strength) {
            for (int b = 0; b < beetles; b++) {
                if (sits(b) && spots[b] < strength) {
                    blowOff(b, strength);
                }
            }
            for (int b = 0; b < beetles; b++) {
                if (!sits(b)) {
                    flyTowards(b, sought(b));
                }
            }
            day++;
        }

        private void blowOff(int b, int strength) {
            int from = placeOf(b);
            if (day % 2 == 0) {
                putInAir(b, Math.min(from + strength, LAST_PLACE));
            } else {
                putInAir(b, Math.max(from - strength, 0));
            }
            flights++;
        }

        private void flyTowards(int b, int p) {
            int way = place[p] - airPlace[b];
            int pace = pace(b);
            airPlace[b] += Math.max(-pace, Math.min(way, pace));
            if (airPlace[b] == place[p]) {
                on[b] = p;
                landings++;
            }
        }

        private int daysTillSits(int b, int most) {
            for (int n = 0; n <= most; n++) {
                if (sits(b)) {
                    return n;
                }
                passDay(windToday());
            }
            return NONE;
        }

        private int daysTillAllSit(int most) {
            for (int n = 0; n <= most; n++) {
                if (sitting() == beetles) {
                    return n;
                }
                passDay(windToday());
            }
            return NONE;
        }
    }

    /** What was SEEN. */
    private static final class Seen {
        private int many = 0;
        private final int[] behind = new int[MOST_SEEN];
        private final int[] who = new int[MOST_SEEN];
        private final int[] counted = new int[MOST_SEEN];

        private boolean append(int n, int p, int v) {
            if (many >= MOST_SEEN) {
                return false;
            }
            behind[many] = n;
            who[many] = p;
            counted[many] = v;
            many++;
            return true;
        }

        private void copyFrom(Seen other) {
            many = other.many;
            System.arraycopy(other.behind, 0, behind, 0, MOST_SEEN);
            System.arraycopy(other.who, 0, who, 0, MOST_SEEN);
            System.arraycopy(other.counted, 0, counted, 0, MOST_SEEN);
        }

        /** Whether all is as SEEN as a county goes on; its days run by this. */
        private boolean isAsIn(County county) {
            int last = 0;
            for (int i = 0; i < many; i++) {
                last = Math.max(last, behind[i]);
            }
            for (int n = 0; n <= last; n++) {
                for (int i = 0; i < many; i++) {
                    if (behind[i] == n && county.counted(who[i]) != counted[i]) {
                        return false;
                    }
                }
                county.passDay(county.windToday());
            }
            return true;
        }
    }

    private static final class Image {
        private boolean isKept = false;
        private final County county = new County();
        private final Seen seen = new Seen();
    }

    /** A row of CELLS; what the machine would find at it is told as a number, before it is touched. */
    private static final class Sheet {
        private int lane = BYTES;
        private int cells = NONE;
        private final int[] row = new int[MOST_CELLS];

        private void renew(int itsLane, int n) {
            lane = itsLane;
            cells = n;
            Arrays.fill(row, 0);
        }

        /** The FAULT of a look at cells from f on (the first is looked at first), by a lane. */
        private int faultAt(int asLane, int f, int n) {
            if (cells == NONE) {
                return NULL;
            }
            if (asLane != lane) {
                return CAST;
            }
            // f is held against the length less n: f + n might be past the greatest int
            return f < 0 || f > cells - n ? INDEX : NO_FAULT;
        }

        private int faultAt(int asLane, int i) {
            return faultAt(asLane, i, 1);
        }

        private void put(int i, int v) {
            if (lane == BYTES) {
                row[i] = (byte) v;
            } else if (lane == SHORTS) {
                row[i] = (short) v;
            } else {
                row[i] = v;
            }
        }
    }

    /** THE TAPE, and the TOKEN that was read of it last. */
    private static final class Tape {
        private static final int END = 0, NAME = 1, NUMBER = 2, SIGN = 3, NO_TOKEN = 4;
        private static final int MOST_FIGURES = 2;

        private final byte[] bytes = new byte[TAPE_BYTES];
        private int length = 0;
        private int sort = END;
        private int start = 0;
        private int next = 0;
        private int value = 0;

        private boolean append(int c) {
            if (length >= TAPE_BYTES) {
                return false;
            }
            bytes[length] = (byte) c;
            length++;
            return true;
        }

        private void rewind() {
            next = 0;
        }

        private void readToken() {
            while (next < length && bytes[next] == ' ') {
                next++;
            }
            start = next;
            if (start >= length) {
                sort = END;
            } else if (isLetter(bytes[start])) {
                readName();
            } else if (isFigure(bytes[start])) {
                readNumber();
            } else {
                sort = bytes[start] == ';' ? SIGN : NO_TOKEN;
                next++;
            }
        }

        private void readName() {
            sort = NAME;
            while (next < length && isLetter(bytes[next])) {
                next++;
            }
        }

        private void readNumber() {
            value = 0;
            while (next < length && isFigure(bytes[next])) {
                // figures past the second would be in vain: such a number is refused
                if (next - start < MOST_FIGURES) {
                    value = 10 * value + bytes[next] - '0';
                }
                next++;
            }
            sort = next - start > MOST_FIGURES ? NO_TOKEN : NUMBER;
        }

        private boolean isName(String name) {
            if (sort != NAME || next - start != name.length()) {
                return false;
            }
            for (int i = 0; i < name.length(); i++) {
                if (bytes[start + i] != name.charAt(i)) {
                    return false;
                }
            }
            return true;
        }

        private static boolean isLetter(int c) {
            return c >= 'a' && c <= 'z';
        }

        private static boolean isFigure(int c) {
            return c >= '0' && c <= '9';
        }
    }

    /** Takes what is on a tape, line by line, up to the first FAULT. */
    private static final class Teller {
        // the lines of BEETLES are told by their KIND
        private static final int ONE_LINE = 4, WIND_LINE = 5, NO_LINE = 6;
        private static final int NO_TOKEN = 1, MISPLACED = 2, OUT_OF_BOUNDS = 3, WIND_AGAIN = 4;
        private static final int TOO_MANY = 5, NO_SUCH_ONE = 6;
        private static final int MOST_NUMBERS = 3;

        private final Tape tape;
        private final County told = new County();
        private final int[] numbers = new int[MOST_NUMBERS];
        private int windsTold = 0;
        private int lines = 0;
        private int fault = NO_FAULT;
        private int faultAt = 0;

        private Teller(Tape itsTape) {
            tape = itsTape;
        }

        private boolean takeText() {
            told.clear();
            windsTold = 0;
            lines = 0;
            fault = NO_FAULT;
            tape.rewind();
            tape.readToken();
            // a line takes a byte at least, so there are no more of them than bytes
            for (int i = 0; i < TAPE_BYTES && tape.sort != Tape.END; i++) {
                if (!takeLine()) {
                    return false;
                }
                lines++;
                tape.readToken();
            }
            return ownersAreThere() || stopsBy(NO_SUCH_ONE);
        }

        /** A line, from its NAME, which has been read, to its sign. */
        private boolean takeLine() {
            if (!isTokenOf(Tape.NAME)) {
                return false;
            }
            int line = lineNamed();
            if (line == NO_LINE) {
                return stopsBy(MISPLACED);
            }
            if (!hasRoomFor(line)) {
                return stopsBy(TOO_MANY);
            }
            for (int i = 0; i < numbersOf(line); i++) {
                if (!takeNumber(line, i)) {
                    return false;
                }
            }
            tape.readToken();
            if (!isTokenOf(Tape.SIGN)) {
                return false;
            }
            take(line);
            return true;
        }

        private boolean takeNumber(int line, int i) {
            tape.readToken();
            if (!isTokenOf(Tape.NUMBER)) {
                return false;
            }
            if (!isWithin(tape.value, leastOf(line, i), mostOf(line, i))) {
                return stopsBy(OUT_OF_BOUNDS);
            }
            if (line == WIND_LINE && i == 0 && (windsTold >> tape.value & 1) == 1) {
                return stopsBy(WIND_AGAIN);
            }
            numbers[i] = tape.value;
            return true;
        }

        private void take(int line) {
            if (line == ONE_LINE) {
                told.addOne(numbers[0]);
            } else if (line == WIND_LINE) {
                told.wind[numbers[0]] = numbers[1];
                windsTold |= 1 << numbers[0];
            } else {
                told.addBeetle(line, numbers[0], numbers[1], numbers[2]);
            }
        }

        private int lineNamed() {
            if (tape.isName("one")) {
                return ONE_LINE;
            }
            if (tape.isName("red")) {
                return RED;
            }
            if (tape.isName("yellow")) {
                return YELLOW;
            }
            if (tape.isName("orphan")) {
                return ORPHAN;
            }
            if (tape.isName("pin")) {
                return PIN;
            }
            return tape.isName("wind") ? WIND_LINE : NO_LINE;
        }

        private boolean hasRoomFor(int line) {
            if (line == WIND_LINE) {
                return true;
            }
            return line == ONE_LINE ? told.hasRoomForOne() : told.hasRoomForBeetle();
        }

        private static int numbersOf(int line) {
            if (line == ONE_LINE) {
                return 1;
            }
            return line == WIND_LINE ? 2 : MOST_NUMBERS;
        }

        private static int leastOf(int line, int i) {
            return isKind(line) && i == 0 ? 1 : 0;
        }

        private static int mostOf(int line, int i) {
            if (line == WIND_LINE) {
                return i == 0 ? WINDS - 1 : STRONGEST;
            }
            if (isKind(line) && i == 0) {
                return MOST_SPOTS;
            }
            return isKind(line) && i == 1 ? MOST_PEOPLE - 1 : LAST_PLACE;
        }

        private boolean ownersAreThere() {
            for (int b = 0; b < told.beetles; b++) {
                if (!told.hasOne(told.owner[b])) {
                    return false;
                }
            }
            return true;
        }

        /** Whether the token read last can stand where one of a sort is due. */
        private boolean isTokenOf(int sort) {
            if (tape.sort == Tape.NO_TOKEN) {
                return stopsBy(NO_TOKEN);
            }
            return tape.sort == sort || stopsBy(MISPLACED);
        }

        /** Always false, so that what meets a FAULT can answer by it; its place is the token's. */
        private boolean stopsBy(int itsFault) {
            fault = itsFault;
            faultAt = tape.start;
            return false;
        }
    }
}
