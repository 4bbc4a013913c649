import java.util.Arrays;
import java.util.NoSuchElementException;

/** One rocking horse that is to be kept going: riders, rotas, nights, and what can be asked of them. */
public final class RockingHorse {
    public static final int NONE = -1;

    private static final int NOTHING = -2;
    private static final int MISSING = -3;
    private static final int NO_COUNT = -100;
    private static final int LAW_FAULT = -10000;
    private static final int MOST_HOURS = 8;
    private static final int MOST_RIDERS = 8;
    private static final int MOST_BEATS = 9;
    private static final int MOST_NIGHTS = 30;
    private static final int MOST_AHEAD = 60;
    private static final int MOST_HARD = 999;
    private static final int MOST_TIRED = 99;
    private static final int MOST_FOUND = 12;
    private static final int MOST_STRIDE = 999;
    private static final int BIDS = 10;
    private static final int KEPT = 2;
    private static final int YEAR_SIGNS = 60;
    private static final int TENTHS = 10;

    private final Text text = new Text();
    private final House house = new House();
    private final State now = new State();
    private final State before = new State();
    private final State dream = new State();
    private final Past past = new Past();
    private final State[] kept = new State[KEPT];
    private final boolean[] isKept = new boolean[KEPT];
    private final Seats seats = new Seats();
    private final Numbers numbers = new Numbers();
    private final int[] foundHour = new int[MOST_FOUND];
    private final int[] foundRider = new int[MOST_FOUND];
    private final int[] foundIs = new int[MOST_FOUND];
    private int findings;
    private Rule spare = new Rule();
    private int drawn;

    public RockingHorse() {
        for (int i = 0; i < KEPT; i++) {
            kept[i] = new State();
        }
    }

    // ---- riders

    public int sign(int v) {
        return text.add(v);
    }

    public boolean end(int n) {
        return text.cut(n);
    }

    public int riders() {
        int lines = house.readRiders(text);
        text.empty();
        if (lines > 0) {
            past.clear();
            forgetKept();
        }
        return lines;
    }

    public int rule() {
        int fault = readSpare();
        if (fault != NONE) {
            return -1 - fault;
        }
        Rule old = house.law;
        house.law = spare;
        spare = old;
        return 0;
    }

    public int rider(int rider, int what) throws NoSuchElementException {
        if (!house.has(rider) || what < 0 || what > 5) {
            throw new NoSuchElementException();
        }
        switch (what) {
            case 0:
                return house.most[rider];
            case 1:
                return house.width[rider];
            case 2:
                return house.can[rider];
            case 3:
                return now.tired[rider];
            case 4:
                return now.isIll(rider) ? 1 : 0;
            default:
                return now.hoursOf(rider);
        }
    }

    public int hard(int rider, int hour) {
        if (!house.has(rider) || !isHour(hour)) {
            return NONE;
        }
        return hardNow(rider, hour);
    }

    public int set(int what, int v) {
        int old = NONE;
        if (what == 0 && v >= 1 && v <= MOST_HOURS) {
            old = house.hours;
            house.hours = v;
        } else if (what == 1 && v >= 0 && v <= MOST_BEATS) {
            old = house.beats;
            house.beats = v;
        }
        return old;
    }

    public int sheet(int kind, int n, int f, int step) {
        if (kind < 0 || kind > 3 || n > MOST_RIDERS) {
            return NONE;
        }
        if (kind == 3) {
            Arrays.fill(now.tired, 0);
            return MISSING;
        }
        if (n < 0) {
            return NOTHING;
        }
        for (int r = 0; r < house.crew; r++) {
            now.tired[r] = r < n ? between(entry(kind, f + r * step), 0, MOST_TIRED) : 0;
        }
        return now.tiredOfAll();
    }

    // ---- nights

    public int rota() {
        int fault = rotaFault();
        int somebodys = -1 - fault;
        if (fault == NONE) {
            before.copy(now);
            somebodys = takeRota();
            past.push(before);
        }
        text.empty();
        return somebodys;
    }

    public int give(int hour, int rider) {
        if (!isHour(hour) || !house.isSomebodyOrNobody(rider)) {
            return NOTHING;
        }
        past.push(now);
        int old = now.rota[hour];
        now.rota[hour] = rider;
        return old;
    }

    public int ill(int rider) {
        if (!house.has(rider)) {
            return NONE;
        }
        past.push(now);
        now.turnIll(rider);
        return Integer.bitCount(now.ill);
    }

    public int nights(int n) {
        if (n < 0 || n > MOST_NIGHTS) {
            return NONE;
        }
        if (n > 0) {
            past.push(now);
        }
        int gapsAhead = now.gaps;
        int riddenAhead = now.ridden;
        house.passAll(now, n);
        numbers.tell(now.ridden - riddenAhead, now.tiredOfAll());
        return now.gaps - gapsAhead;
    }

    public int year() {
        int fault = yearFault();
        if (fault != NONE) {
            text.empty();
            return -1 - fault;
        }
        before.copy(now);
        int done = 0;
        int place = 0;
        boolean can = true;
        for (int round = 0; round < YEAR_SIGNS && can && place < text.length; round++) {
            can = act(text.at(place), text.at(place + 1), text.at(place + 2));
            place += actSigns(text.at(place));
            done += can ? 1 : 0;
        }
        if (done > 0) {
            past.push(before);
        }
        text.empty();
        numbers.tell(can ? 0 : 1, now.gaps);
        return done;
    }

    public int undo() {
        return past.pop(now);
    }

    // ---- how it goes

    public int gaps() {
        house.watch(now);
        numbers.tell(Integer.bitCount(house.gapBits), house.rodeBits);
        return house.gapBits;
    }

    public int first(int n) {
        if (n < 1 || n > MOST_AHEAD) {
            return NONE;
        }
        dream.copy(now);
        for (int night = 0; night < n; night++) {
            house.pass(dream);
            if (house.gapBits != 0) {
                numbers.tell(lowest(house.gapBits));
                return night;
            }
        }
        return NOTHING;
    }

    public int later(int n) {
        if (n < 0 || n > MOST_AHEAD) {
            return NONE;
        }
        dream.copy(now);
        house.passAll(dream, n);
        numbers.tell(dream.tiredOfAll(), dream.mostTired());
        return dream.gaps - now.gaps;
    }

    public int vigil(int n) {
        if (n < 0 || n > MOST_AHEAD) {
            return NONE;
        }
        dream.copy(now);
        int longest = 0;
        int start = NONE;
        int length = 0;
        for (int night = 0; night < n; night++) {
            house.pass(dream);
            length = house.gapBits == 0 ? length + 1 : 0;
            if (length > longest) {
                longest = length;
                start = night - length + 1;
            }
        }
        numbers.tell(start);
        return longest;
    }

    public int trade() {
        if (house.hours < 2) {
            return NOTHING;
        }
        dream.copy(now);
        int fewest = MOST_HOURS + 1;
        int one = 0;
        int other = 0;
        for (int a = 0; a < house.hours; a++) {
            for (int b = a + 1; b < house.hours; b++) {
                int gaps = gapsByTrade(a, b);
                if (gaps < fewest) {
                    fewest = gaps;
                    one = a;
                    other = b;
                }
            }
        }
        house.watch(now);
        numbers.tell(one, other);
        numbers.add(Integer.bitCount(house.gapBits));
        return fewest;
    }

    // ---- rotas

    public int easiest() {
        long best = easiestWithout(NONE);
        return best >= Seats.NO_ROTA ? NOTHING : tellRota(best);
    }

    public int fewest() {
        openSeats(NONE);
        for (int r = 0; r < house.crew; r++) {
            seats.flat[r] = 256 + (1 << r);
        }
        long best = seats.least();
        if (best >= Seats.NO_ROTA) {
            return NOTHING;
        }
        numbers.tell(best & 255);
        return (int) (best >> 8);
    }

    public int bare() {
        openSeats(NONE);
        seats.least();
        int fewest = MOST_HOURS + 1;
        int which = 0;
        for (int mask = 1; mask <= seats.full; mask++) {
            if (!seats.canHold(mask) && Integer.bitCount(mask) < fewest) {
                fewest = Integer.bitCount(mask);
                which = mask;
            }
        }
        if (which == 0) {
            return NOTHING;
        }
        numbers.tell(which);
        return fewest;
    }

    public int rotas() {
        openSeats(NONE);
        return tellWays();
    }

    public int mended(int rider) {
        if (!house.has(rider)) {
            return NONE;
        }
        openSeats(rider);
        priceByDifference();
        long best = seats.least();
        return best >= Seats.NO_ROTA ? NOTHING : tellRota(best);
    }

    public int takes() {
        long best = easiestWithout(NONE);
        if (best >= Seats.NO_ROTA) {
            return NOTHING;
        }
        past.push(now);
        int changed = 0;
        for (int h = 0; h < house.hours; h++) {
            int r = Seats.riderIn(best, h);
            changed += now.rota[h] == r ? 0 : 1;
            now.rota[h] = r;
        }
        return changed;
    }

    public int missed(int rider) {
        if (!house.has(rider)) {
            return NONE;
        }
        long best = easiestWithout(NONE);
        long without = easiestWithout(rider);
        if (best >= Seats.NO_ROTA || without >= Seats.NO_ROTA) {
            return NOTHING;
        }
        return Seats.priceOf(without) - Seats.priceOf(best);
    }

    public int paid(int rider) {
        if (!house.has(rider)) {
            return NONE;
        }
        long best = easiestWithout(NONE);
        long without = easiestWithout(rider);
        if (best >= Seats.NO_ROTA || without >= Seats.NO_ROTA) {
            return NOTHING;
        }
        int own = 0;
        for (int h = 0; h < house.hours; h++) {
            own += Seats.riderIn(best, h) == rider ? hardNow(rider, h) : 0;
        }
        int others = Seats.priceOf(best) - own;
        numbers.tell(own, others);
        return Seats.priceOf(without) - others;
    }

    public int fairest() {
        openSeats(NONE);
        for (int r = 0; r < house.crew; r++) {
            for (int h = 0; h < house.hours; h++) {
                seats.charge(r, h, hardNow(r, h));
            }
        }
        long most = seats.leastMost();
        if (most >= Seats.NO_ROTA) {
            return NOTHING;
        }
        seats.limit = most;
        numbers.tell(seats.least());
        return (int) most;
    }

    public int away() {
        openSeats(NONE);
        for (int r = 0; r < house.crew; r++) {
            // Of as few that stay the greatest set is sought: those away are then the least one.
            seats.flat[r] = 512 - (1 << r);
        }
        long best = seats.least();
        if (best >= Seats.NO_ROTA) {
            return NOTHING;
        }
        int stay = (int) (-best & 511);
        int gone = wellOnes() & ~stay;
        numbers.tell(gone);
        return Integer.bitCount(gone);
    }

    public int able(int hour) {
        if (!isHour(hour)) {
            return NONE;
        }
        numbers.clear();
        int told = 0;
        for (int round = 0; round < house.crew; round++) {
            int next = leastHard(hour, told);
            if (next == NONE) {
                break;
            }
            told |= 1 << next;
            numbers.add(next);
        }
        return Integer.bitCount(told);
    }

    public int spent(int v) {
        if (v < 0 || v > MOST_HARD) {
            return NONE;
        }
        int who = 0;
        int most = 0;
        for (int r = 0; r < house.crew; r++) {
            int hardest = hardestOf(r);
            if (hardest > v) {
                who |= 1 << r;
                most = Math.max(most, hardest);
            }
        }
        numbers.tell(Integer.bitCount(who), most);
        return who;
    }

    public int shared(int one, int other) {
        if (!house.areTwo(one, other)) {
            return NONE;
        }
        numbers.tell(~(house.can[one] | house.can[other]) & 255);
        return house.can[one] & house.can[other];
    }

    public int thin() {
        int fewest = MOST_RIDERS + 1;
        int which = 0;
        for (int h = 0; h < house.hours; h++) {
            int can = 0;
            for (int r = 0; r < house.crew; r++) {
                can += house.isAble(now, r, h) ? 1 : 0;
            }
            if (can < fewest) {
                fewest = can;
                which = h;
            }
        }
        numbers.tell(fewest);
        return which;
    }

    // ---- changes

    public int changes() {
        int times = 0;
        int slow = 0;
        int together = 0;
        for (int h = 1; h < MOST_HOURS; h++) {
            int from = now.rota[h - 1];
            int to = now.rota[h];
            if (house.areTwo(from, to)) {
                int differ = house.differ(from, to);
                times++;
                slow += differ > house.beats ? 1 : 0;
                together += differ;
            }
        }
        numbers.tell(slow, together);
        return times;
    }

    public int smoothest() {
        openSeats(NONE);
        priceByName();
        seats.orderByWidth(house.width, house.crew);
        long best = seats.least();
        return best >= Seats.NO_ROTA ? NOTHING : tellRota(best);
    }

    public int meets(int one, int other, int p) {
        if (!house.areTwo(one, other) || p < 2 || p > 40) {
            return NONE;
        }
        int earliest = 0;
        int strides = 0;
        for (int s = MOST_STRIDE; s >= 1; s--) {
            if ((house.width[one] * s + one) % p == (house.width[other] * s + other) % p) {
                earliest = s;
                strides++;
            }
        }
        if (strides == 0) {
            return NOTHING;
        }
        numbers.tell((house.width[one] * earliest + one) % p, strides);
        return earliest;
    }

    // ---- who rode when (HELD rotas that fit what was found)

    public int found(int hour, int rider, int is) {
        if (!isHour(hour) || !house.has(rider) || is < 0 || is > 1 || findings >= MOST_FOUND) {
            return NONE;
        }
        foundHour[findings] = hour;
        foundRider[findings] = rider;
        foundIs[findings] = is;
        findings++;
        return findings;
    }

    public int forget() {
        int there = findings;
        findings = 0;
        return there;
    }

    public int fits() {
        openFitting();
        return tellWays();
    }

    public int sure(int hour, int rider) {
        if (hour < 0 || hour >= house.hours || !house.has(rider)) {
            return NONE;
        }
        openFitting();
        int all = seats.ways();
        if (all == 0) {
            return NOTHING;
        }
        seats.holdTo(hour, rider);
        int some = seats.ways();
        tellFraction(some, all);
        return some;
    }

    public int ask() {
        openFitting();
        if (seats.ways() == 0) {
            return NOTHING;
        }
        seats.tallyAll();
        int fewest = seats.mostIn(0);
        int which = 0;
        for (int h = 1; h < house.hours; h++) {
            int left = seats.mostIn(h);
            if (left < fewest) {
                fewest = left;
                which = h;
            }
        }
        numbers.tell(fewest);
        return which;
    }

    // ---- chances, bids, rules, years

    public int held(int p) {
        if (p < 0 || p > TENTHS) {
            return NONE;
        }
        openSeats(NONE);
        seats.findLacks();
        tellFraction(chance(wellOnes(), p), power(TENTHS, Integer.bitCount(wellOnes())));
        return 0;
    }

    public int keystone(int p) {
        if (p < 0 || p > TENTHS) {
            return NONE;
        }
        int well = wellOnes();
        if (well == 0) {
            return NOTHING;
        }
        openSeats(NONE);
        seats.findLacks();
        // With one rider fewer no chance has an upper number as great as this.
        long least = power(TENTHS, Integer.bitCount(well));
        int which = 0;
        for (int r = 0; r < house.crew; r++) {
            if ((well >> r & 1) == 1) {
                long likely = chance(well & ~(1 << r), p);
                if (likely < least) {
                    least = likely;
                    which = r;
                }
            }
        }
        tellFraction(least, power(TENTHS, Integer.bitCount(well) - 1));
        return which;
    }

    public int rests(int v, int w) {
        if (v < 0 || v >= BIDS || w < 0 || w >= BIDS) {
            return NONE;
        }
        int pairs = 0;
        int firstHas = 0;
        int least = 0;
        for (int pair = BIDS * BIDS - 1; pair >= 0; pair--) {
            if (isAtRest(pair / BIDS, pair % BIDS, v, w)) {
                pairs++;
                firstHas += pair / BIDS >= pair % BIDS ? 1 : 0;
                least = pair;
            }
        }
        numbers.clear();
        if (pairs > 0) {
            numbers.tell(least / BIDS, least % BIDS);
            numbers.add(firstHas);
        }
        return pairs;
    }

    public int law() {
        int fault = readSpare();
        if (fault != NONE) {
            return LAW_FAULT - fault;
        }
        int byIt = hardOfRota(spare);
        int byRule = hardOfRota(house.law);
        numbers.tell(byIt, byRule);
        return byIt - byRule;
    }

    public int years(int seed, int n) {
        if (n < 1 || n > MOST_AHEAD) {
            return NONE;
        }
        dream.copy(now);
        drawn = seed;
        for (int i = 0; i < n; i++) {
            drawAct();
        }
        numbers.tell(dream.ridden - now.ridden, dream.tiredOfAll());
        return dream.gaps - now.gaps;
    }

    // ---- kept

    public boolean keep(int i) {
        if (i < 0 || i >= KEPT) {
            return false;
        }
        kept[i].copy(now);
        isKept[i] = true;
        return true;
    }

    public boolean again(int i) {
        if (i < 0 || i >= KEPT || !isKept[i]) {
            return false;
        }
        now.copy(kept[i]);
        past.clear();
        return true;
    }

    public int count(int what) {
        if (what >= 20 && what < 20 + MOST_HOURS) {
            return now.rota[what - 20];
        }
        switch (what) {
            case 0:
                return house.hours;
            case 1:
                return house.beats;
            case 2:
                return house.crew;
            case 3:
                return now.ill;
            case 4:
                return now.night;
            case 5:
                return now.gaps;
            case 6:
                return now.ridden;
            case 7:
                return now.tiredOfAll();
            case 8:
                return findings;
            case 9:
                return past.size;
            case 10:
                return numbers.size;
            case 11:
                return text.length;
            default:
                return NO_COUNT;
        }
    }

    public long row(int i) throws NoSuchElementException {
        if (i < 0 || i >= numbers.size) {
            throw new NoSuchElementException();
        }
        return numbers.at(i);
    }

    // ---- small helps

    private static boolean isHour(int hour) {
        return hour >= 0 && hour < MOST_HOURS;
    }

    private static boolean isDigit(int sign) {
        return sign >= '0' && sign <= '9';
    }

    private static int between(int v, int least, int most) {
        return Math.max(least, Math.min(most, v));
    }

    private static int lowest(int bits) {
        return Integer.bitCount((bits & -bits) - 1);
    }

    private static int entry(int kind, int v) {
        if (kind == 0) {
            return (byte) v;
        }
        return kind == 1 ? (short) v : v;
    }

    private static long power(int base, int times) {
        long product = 1;
        for (int i = 0; i < times; i++) {
            product *= base;
        }
        return product;
    }

    private static long greatestShared(long a, long b) {
        // Euclid's rest falls by half in two rounds: 128 are plenty for longs.
        for (int round = 0; round < 128 && b != 0; round++) {
            long rest = a % b;
            a = b;
            b = rest;
        }
        return a;
    }

    private void tellFraction(long upper, long lower) {
        long shared = greatestShared(upper, lower);
        if (shared > 0) {
            numbers.tell(upper / shared, lower / shared);
        }
    }

    private void forgetKept() {
        for (int i = 0; i < KEPT; i++) {
            isKept[i] = false;
        }
    }

    private int hardNow(int rider, int hour) {
        return house.hardBy(house.law, now, rider, hour);
    }

    private int wellOnes() {
        return ((1 << house.crew) - 1) & ~now.ill;
    }

    /** Reads THE TEXT into the spare rule: NONE, or where a sign can't stand. */
    private int readSpare() {
        int fault = spare.read(text);
        text.empty();
        return fault;
    }

    private int rotaFault() {
        int stop = Math.min(text.length, house.hours);
        for (int p = 0; p < stop; p++) {
            int sign = text.at(p);
            if (sign != '-' && !(isDigit(sign) && house.has(sign - '0'))) {
                return p;
            }
        }
        return text.length == house.hours ? NONE : stop;
    }

    private int takeRota() {
        int somebodys = 0;
        for (int h = 0; h < MOST_HOURS; h++) {
            int sign = h < house.hours ? text.at(h) : '-';
            now.rota[h] = sign == '-' ? NONE : sign - '0';
            somebodys += sign == '-' ? 0 : 1;
        }
        return somebodys;
    }

    private int gapsByTrade(int a, int b) {
        int one = dream.rota[a];
        int other = dream.rota[b];
        dream.rota[a] = other;
        dream.rota[b] = one;
        house.watch(dream);
        dream.rota[a] = one;
        dream.rota[b] = other;
        return Integer.bitCount(house.gapBits);
    }

    // ---- years as texts and by draws

    /** Where a sign of A YEAR can't stand, or NONE. */
    private int yearFault() {
        int stop = Math.min(text.length, YEAR_SIGNS);
        int letter = 0;
        int behind = 0;
        for (int p = 0; p < stop; p++) {
            int sign = text.at(p);
            if (behind == 0) {
                letter = sign;
                behind = actSigns(sign) - 1;
                if (behind == 0) {
                    return p;
                }
            } else {
                boolean nobody = letter == 'g' && behind == 1 && sign == '-';
                if (!isDigit(sign) && !nobody) {
                    return p;
                }
                behind--;
            }
        }
        return text.length > YEAR_SIGNS || behind > 0 ? stop : NONE;
    }

    /** How many signs an ACT has by its letter; 1 for what is no letter of one. */
    private static int actSigns(int letter) {
        switch (letter) {
            case 'n':
            case 'i':
                return 2;
            case 'g':
            case 'x':
                return 3;
            default:
                return 1;
        }
    }

    private boolean act(int letter, int one, int other) {
        int a = one - '0';
        int b = other == '-' ? NONE : other - '0';
        switch (letter) {
            case 'n':
                house.passAll(now, a);
                return true;
            case 'i':
                return actIll(a);
            case 'g':
                return actGive(a, b);
            default:
                return actExchange(a, b);
        }
    }

    private boolean actIll(int rider) {
        if (!house.has(rider)) {
            return false;
        }
        now.turnIll(rider);
        return true;
    }

    private boolean actGive(int hour, int rider) {
        if (!isHour(hour) || !house.isSomebodyOrNobody(rider)) {
            return false;
        }
        now.rota[hour] = rider;
        return true;
    }

    private boolean actExchange(int one, int other) {
        if (!house.areTwo(one, other)) {
            return false;
        }
        for (int h = 0; h < MOST_HOURS; h++) {
            if (now.rota[h] == one) {
                now.rota[h] = other;
            } else if (now.rota[h] == other) {
                now.rota[h] = one;
            }
        }
        return true;
    }

    private int draw(int n) {
        drawn = drawn * 1103515245 + 12345;
        return n > 0 ? (drawn >>> 16) % n : 0;
    }

    private void drawAct() {
        int kind = draw(4);
        if (kind < 2) {
            house.pass(dream);
        } else if (house.crew > 0 && kind == 2) {
            dream.turnIll(draw(house.crew));
        } else if (house.crew > 0) {
            int hour = draw(MOST_HOURS);
            dream.rota[hour] = draw(house.crew);
        }
    }

    // ---- rotas

    /** The seats are those of HELD rotas, without prices, one rider not being there (or NONE). */
    private void openSeats(int without) {
        seats.open(house.hours);
        for (int r = 0; r < house.crew; r++) {
            boolean there = r != without && !now.isIll(r);
            seats.seat(r, there ? house.can[r] : 0, house.most[r]);
        }
    }

    private void openFitting() {
        openSeats(NONE);
        for (int i = 0; i < findings; i++) {
            if (foundIs[i] == 1) {
                seats.holdTo(foundHour[i], foundRider[i]);
            } else {
                seats.bar(foundHour[i], foundRider[i]);
            }
        }
    }

    private void priceByHard() {
        for (int r = 0; r < house.crew; r++) {
            for (int h = 0; h < house.hours; h++) {
                seats.price(r, h, hardNow(r, h));
            }
        }
    }

    private void priceByDifference() {
        for (int r = 0; r < house.crew; r++) {
            for (int h = 0; h < house.hours; h++) {
                seats.price(r, h, now.rota[h] == r ? 0 : 1);
            }
        }
    }

    private void priceByName() {
        for (int r = 0; r < house.crew; r++) {
            for (int h = 0; h < house.hours; h++) {
                seats.price(r, h, 0);
            }
        }
    }

    private long easiestWithout(int rider) {
        openSeats(rider);
        priceByHard();
        return seats.least();
    }

    private int tellRota(long best) {
        numbers.clear();
        for (int h = 0; h < house.hours; h++) {
            numbers.add(Seats.riderIn(best, h));
        }
        return Seats.priceOf(best);
    }

    private int tellWays() {
        int ways = seats.ways();
        numbers.clear();
        if (ways > 0) {
            priceByName();
            tellRota(seats.least());
        }
        return ways;
    }

    /** Of those who are able and not told yet the one for whom the hour is the least HARD. */
    private int leastHard(int hour, int told) {
        int which = NONE;
        int least = MOST_HARD + 1;
        for (int r = 0; r < house.crew; r++) {
            if ((told >> r & 1) == 0 && house.isAble(now, r, hour) && hardNow(r, hour) < least) {
                least = hardNow(r, hour);
                which = r;
            }
        }
        return which;
    }

    private int hardestOf(int rider) {
        int hardest = 0;
        for (int h = 0; h < MOST_HOURS; h++) {
            if ((house.can[rider] >> h & 1) == 1) {
                hardest = Math.max(hardest, hardNow(rider, h));
            }
        }
        return hardest;
    }

    private int hardOfRota(Rule by) {
        int together = 0;
        for (int h = 0; h < house.hours; h++) {
            int r = now.rota[h];
            together += house.has(r) ? house.hardBy(by, now, r, h) : 0;
        }
        return together;
    }

    /** How likely, by as many tenths of tenths as there are riders, some of these hold the night. */
    private long chance(int among, int p) {
        int all = Integer.bitCount(among);
        long together = 0;
        for (int stay = 0; stay <= among; stay++) {
            if ((stay & ~among) == 0 && !seats.lacks(stay)) {
                int staying = Integer.bitCount(stay);
                together += power(TENTHS - p, staying) * power(p, all - staying);
            }
        }
        return together;
    }

    private static boolean isAtRest(int x, int y, int v, int w) {
        int one = x >= y ? v - y : 0;
        int other = y > x ? w - x : 0;
        for (int bid = 0; bid < BIDS; bid++) {
            if ((bid >= y ? v - y : 0) > one || (bid > x ? w - x : 0) > other) {
                return false;
            }
        }
        return true;
    }

    /** THE TEXT. */
    private static final class Text {
        private static final int ROOM = 80;
        private final int[] signs = new int[ROOM];
        private int length;

        private int add(int v) {
            if (length + 4 > ROOM) {
                return NONE;
            }
            for (int shift = 24; shift >= 0; shift -= 8) {
                signs[length] = v >>> shift & 255;
                length++;
            }
            return length;
        }

        private boolean cut(int n) {
            if (n < 0 || n > length) {
                return false;
            }
            length = n;
            return true;
        }

        private void empty() {
            length = 0;
        }

        /** The sign at a place, NONE where there is none. */
        private int at(int place) {
            return place >= 0 && place < length ? signs[place] : NONE;
        }
    }

    /** The ROW. */
    private static final class Numbers {
        private final long[] told = new long[MOST_HOURS];
        private int size;

        private void clear() {
            size = 0;
        }

        private void add(long v) {
            if (size < told.length) {
                told[size] = v;
                size++;
            }
        }

        private void tell(long one) {
            clear();
            add(one);
        }

        private void tell(long one, long other) {
            clear();
            add(one);
            add(other);
        }

        private long at(int i) {
            return i >= 0 && i < size ? told[i] : 0;
        }
    }

    /** What undo() brings back. */
    private static final class State {
        private final int[] rota = new int[MOST_HOURS];
        private final int[] tired = new int[MOST_RIDERS];
        private int ill;
        private int night;
        private int gaps;
        private int ridden;

        private State() {
            Arrays.fill(rota, NONE);
        }

        private void copy(State from) {
            System.arraycopy(from.rota, 0, rota, 0, MOST_HOURS);
            System.arraycopy(from.tired, 0, tired, 0, MOST_RIDERS);
            ill = from.ill;
            night = from.night;
            gaps = from.gaps;
            ridden = from.ridden;
        }

        private boolean isIll(int rider) {
            return (ill >> rider & 1) == 1;
        }

        private void turnIll(int rider) {
            ill ^= 1 << rider;
        }

        private int hoursOf(int rider) {
            int bits = 0;
            for (int h = 0; h < MOST_HOURS; h++) {
                bits |= rota[h] == rider ? 1 << h : 0;
            }
            return bits;
        }

        private int tiredOfAll() {
            int together = 0;
            for (int r = 0; r < MOST_RIDERS; r++) {
                together += tired[r];
            }
            return together;
        }

        private int mostTired() {
            int most = 0;
            for (int r = 0; r < MOST_RIDERS; r++) {
                most = Math.max(most, tired[r]);
            }
            return most;
        }
    }

    /** The latest states that undo() can bring back; the oldest gives way. */
    private static final class Past {
        private static final int ROOM = 12;
        private final State[] states = new State[ROOM];
        private int next;
        private int size;

        private Past() {
            for (int i = 0; i < ROOM; i++) {
                states[i] = new State();
            }
        }

        private void clear() {
            size = 0;
        }

        private void push(State state) {
            states[next].copy(state);
            next = (next + 1) % ROOM;
            size = Math.min(size + 1, ROOM);
        }

        private int pop(State into) {
            if (size == 0) {
                return NONE;
            }
            next = (next + ROOM - 1) % ROOM;
            size--;
            into.copy(states[next]);
            return size;
        }
    }

    /** A rule, held as its things and operators in the order in which they are reckoned. */
    private static final class Rule {
        private static final int SIGNS = 40;
        private static final int DEPTH = 4;
        private static final int DIGITS = 3;
        private static final int MINUS_AHEAD = 256;
        private static final String AT_FIRST = "t+w+(h>5)*9";
        private static final String THINGS = "htwminc";

        private final int[] code = new int[SIGNS];
        private final int[] waiting = new int[SIGNS];
        private final int[] stack = new int[SIGNS];
        private final boolean[] compared = new boolean[DEPTH + 1];
        private int size;
        private int waits;
        private int depth;
        private int digits;
        private boolean thingDue;

        private Rule() {
            readFirst();
        }

        private void begin() {
            size = 0;
            waits = 0;
            depth = 0;
            digits = 0;
            thingDue = true;
            compared[0] = false;
        }

        private void readFirst() {
            begin();
            for (int p = 0; p < AT_FIRST.length(); p++) {
                if (thingDue) {
                    takeThing(AT_FIRST.charAt(p));
                } else {
                    takeBehindThing(AT_FIRST.charAt(p));
                }
            }
            reckonDownTo(1);
        }

        /** Becomes what the text tells (none: the rule at first): NONE, or where a sign can't stand. */
        private int read(Text text) {
            if (text.length == 0) {
                readFirst();
                return NONE;
            }
            begin();
            int stop = Math.min(text.length, SIGNS);
            for (int p = 0; p < stop; p++) {
                int sign = text.at(p);
                boolean stands = thingDue ? takeThing(sign) : takeBehindThing(sign);
                if (!stands) {
                    return p;
                }
            }
            if (text.length > SIGNS || thingDue || depth > 0) {
                return stop;
            }
            reckonDownTo(1);
            return NONE;
        }

        private boolean takeThing(int sign) {
            if (sign == '-') {
                await(MINUS_AHEAD);
                return true;
            }
            if (sign == '(') {
                return openBracket();
            }
            int thing = THINGS.indexOf((char) sign);
            if (!isDigit(sign) && thing < 0) {
                return false;
            }
            digits = thing < 0 ? 1 : 0;
            emit(thing < 0 ? sign - '0' : -1 - thing);
            thingDue = false;
            return true;
        }

        private boolean takeBehindThing(int sign) {
            if (isDigit(sign)) {
                return takeDigitMore(sign - '0');
            }
            digits = 0;
            if (sign == ')') {
                return closeBracket();
            }
            int binds = binding(sign);
            if (binds == 0 || binds == 1 && compared[depth]) {
                return false;
            }
            compared[depth] = compared[depth] || binds == 1;
            reckonDownTo(binds);
            await(sign);
            thingDue = true;
            return true;
        }

        private boolean takeDigitMore(int digit) {
            if (digits < 1 || digits >= DIGITS || size < 1) {
                return false;
            }
            digits++;
            code[size - 1] = code[size - 1] * 10 + digit;
            return true;
        }

        private boolean openBracket() {
            if (depth >= DEPTH) {
                return false;
            }
            depth++;
            compared[depth] = false;
            await('(');
            return true;
        }

        private boolean closeBracket() {
            if (depth == 0) {
                return false;
            }
            reckonDownTo(1);
            depth--;
            waits = Math.max(0, waits - 1);
            return true;
        }

        /** How close an operator binds; 0 for a bracket and for what is no operator. */
        private static int binding(int sign) {
            switch (sign) {
                case '<':
                case '>':
                case '=':
                    return 1;
                case '+':
                case '-':
                    return 2;
                case '*':
                case '/':
                    return 3;
                case MINUS_AHEAD:
                    return 4;
                default:
                    return 0;
            }
        }

        private void await(int operator) {
            if (waits < waiting.length) {
                waiting[waits] = operator;
                waits++;
            }
        }

        private void emit(int part) {
            if (size < code.length) {
                code[size] = part;
                size++;
            }
        }

        /** Operators that wait and bind no less than this come next. */
        private void reckonDownTo(int binds) {
            while (waits > 0 && binding(waiting[waits - 1]) >= binds) {
                waits--;
                emit(-waiting[waits]);
            }
        }

        /** The value by the seven things, as ints. */
        private int value(int[] things) {
            int top = 0;
            for (int k = 0; k < size; k++) {
                int part = code[k];
                if (part >= 0) {
                    top = push(top, part);
                } else if (-1 - part < things.length) {
                    top = push(top, things[-1 - part]);
                } else if (part == -MINUS_AHEAD && top > 0) {
                    stack[top - 1] = -stack[top - 1];
                } else if (top > 1) {
                    top--;
                    stack[top - 1] = reckon(-part, stack[top - 1], stack[top]);
                }
            }
            return stack[0];
        }

        private int push(int top, int v) {
            if (top >= stack.length) {
                return top;
            }
            stack[top] = v;
            return top + 1;
        }

        private static int reckon(int operator, int a, int b) {
            switch (operator) {
                case '<':
                    return a < b ? 1 : 0;
                case '>':
                    return a > b ? 1 : 0;
                case '=':
                    return a == b ? 1 : 0;
                case '+':
                    return a + b;
                case '-':
                    return a - b;
                case '*':
                    return a * b;
                default:
                    return b == 0 ? 0 : a / b;
            }
        }
    }

    /** The riders as they came, the rule, and how a NIGHT goes by a state. */
    private static final class House {
        private static final int SIGNS = 76;
        private final int[] can = new int[MOST_RIDERS];
        private final int[] most = new int[MOST_RIDERS];
        private final int[] width = new int[MOST_RIDERS];
        private final int[] things = new int[7];
        private final int[] rode = new int[MOST_RIDERS];
        private final int[] more = new int[MOST_RIDERS];
        private int crew;
        private int hours = MOST_HOURS;
        private int beats = 4;
        private Rule law = new Rule();
        private int gapBits;
        private int rodeBits;

        private boolean has(int rider) {
            return rider >= 0 && rider < crew;
        }

        private boolean isSomebodyOrNobody(int rider) {
            return rider == NONE || has(rider);
        }

        private boolean areTwo(int one, int other) {
            return has(one) && has(other) && one != other;
        }

        private int differ(int one, int other) {
            return Math.abs(width[one] - width[other]);
        }

        /** How many LINES came, or -1 - the place of the sign that can't stand. */
        private int readRiders(Text text) {
            if (text.length == 0) {
                return 0;
            }
            int stop = Math.min(text.length, SIGNS);
            int at = 0;
            int lines = 0;
            for (int p = 0; p < stop; p++) {
                // What is written behind the crew is not seen, till the crew grows.
                int next = takeSign(text.at(p), at, crew + lines);
                if (next == NONE) {
                    return -1 - p;
                }
                lines += at == 1 ? 1 : 0;
                at = next;
            }
            if (text.length > SIGNS || at < 2) {
                return -1 - stop;
            }
            crew += lines;
            return lines;
        }

        /** The sign is a LINE's first (at 0), second (1) or a later one: where the next is, or NONE. */
        private int takeSign(int sign, int at, int rider) {
            if (at == 0) {
                return sign >= '1' && sign <= '4' && rider < MOST_RIDERS ? takeMost(rider, sign - '0') : NONE;
            }
            if (at == 1) {
                return sign >= '1' && sign <= '9' && rider < MOST_RIDERS ? takeWidth(rider, sign - '0') : NONE;
            }
            if (sign == ';') {
                return 0;
            }
            return sign >= 'a' && sign <= 'h' && rider > 0 ? takeHour(rider - 1, 1 << (sign - 'a')) : NONE;
        }

        private int takeMost(int rider, int v) {
            most[rider] = v;
            return 1;
        }

        private int takeWidth(int rider, int v) {
            width[rider] = v;
            can[rider] = 0;
            return 2;
        }

        private int takeHour(int rider, int bit) {
            if (rider >= MOST_RIDERS || can[rider] >= bit) {
                return NONE;
            }
            can[rider] |= bit;
            return 2;
        }

        private int hardBy(Rule rule, State state, int rider, int hour) {
            things[0] = hour;
            things[1] = state.tired[rider];
            things[2] = width[rider];
            things[3] = most[rider];
            things[4] = rider;
            things[5] = state.night % 7;
            things[6] = Integer.bitCount(can[rider]);
            return between(rule.value(things), 0, MOST_HARD);
        }

        private boolean isAble(State state, int rider, int hour) {
            return has(rider) && (can[rider] >> hour & 1) == 1 && !state.isIll(rider);
        }

        /** Finds which hours of a state's next NIGHT are ridden and which are GAPS. */
        private void watch(State state) {
            gapBits = 0;
            rodeBits = 0;
            Arrays.fill(rode, 0);
            int last = NONE;
            for (int h = 0; h < hours; h++) {
                int r = state.rota[h];
                if (!isAble(state, r, h) || rode[r] >= most[r]) {
                    gapBits |= 1 << h;
                    last = NONE;
                    continue;
                }
                rode[r]++;
                rodeBits |= 1 << h;
                if (areTwo(last, r) && differ(last, r) > beats) {
                    gapBits |= 1 << h;
                }
                last = r;
            }
        }

        /** A NIGHT passes. */
        private void pass(State state) {
            watch(state);
            Arrays.fill(more, 0);
            for (int h = 0; h < hours; h++) {
                int r = state.rota[h];
                if ((rodeBits >> h & 1) == 1 && has(r)) {
                    more[r] += hardBy(law, state, r, h);
                }
            }
            for (int r = 0; r < crew; r++) {
                int tired = rode[r] > 0 ? state.tired[r] + more[r] : state.tired[r] - 5;
                state.tired[r] = between(tired, 0, MOST_TIRED);
            }
            state.gaps += Integer.bitCount(gapBits);
            state.ridden += Integer.bitCount(rodeBits);
            state.night++;
        }

        private void passAll(State state, int nights) {
            for (int i = 0; i < nights; i++) {
                pass(state);
            }
        }
    }

    /**
     * All HELD rotas at once: rider by rider, of each set of hours what the riders so far make of it.
     * A rota's number is its price with the names of its riders below it, three bits an hour, so that
     * the least number is the least price and, of like ones, the least row.
     */
    private static final class Seats {
        private static final long NO_ROTA = 1L << 60;
        private static final int NAME_BITS = 24;
        private static final int SETS = 256;

        private final int[] may = new int[MOST_RIDERS];
        private final int[] most = new int[MOST_RIDERS];
        private final int[] order = new int[MOST_RIDERS];
        private final int[] step = new int[MOST_RIDERS];
        private final long[] cost = new long[MOST_RIDERS * MOST_HOURS];
        private final long[] flat = new long[MOST_RIDERS];
        private final long[] weight = new long[SETS];
        private final long[] best = new long[SETS];
        private final int[] ahead = new int[(MOST_RIDERS + 1) * SETS];
        private final int[] behind = new int[SETS];
        private final int[] tally = new int[MOST_RIDERS * MOST_HOURS];
        private final boolean[] lack = new boolean[SETS];
        private final int[] reach = new int[SETS];
        private int full;
        private long limit;

        private static int riderIn(long number, int hour) {
            return (int) (number >> 3 * (MOST_HOURS - 1 - hour)) & 7;
        }

        private static int priceOf(long number) {
            return (int) (number >> NAME_BITS);
        }

        /** Nobody has a seat yet, and nothing costs. */
        private void open(int hours) {
            full = (1 << hours) - 1;
            limit = NO_ROTA - 1;
            Arrays.fill(may, 0);
            Arrays.fill(most, 0);
            Arrays.fill(step, 0);
            Arrays.fill(flat, 0);
            Arrays.fill(cost, 0);
            for (int k = 0; k < MOST_RIDERS; k++) {
                order[k] = k;
            }
        }

        private void seat(int rider, int hours, int atMost) {
            may[rider] = hours & full;
            most[rider] = atMost;
        }

        private void charge(int rider, int hour, long v) {
            cost[rider * MOST_HOURS + hour] = v;
        }

        /** An hour has a price for a rider, and the rider's name below it. */
        private void price(int rider, int hour, int v) {
            charge(rider, hour, ((long) v << NAME_BITS) + ((long) rider << 3 * (MOST_HOURS - 1 - hour)));
        }

        private void bar(int hour, int rider) {
            may[rider] &= ~(1 << hour);
        }

        private void holdTo(int hour, int rider) {
            for (int r = 0; r < MOST_RIDERS; r++) {
                if (r != rider) {
                    bar(hour, r);
                }
            }
        }

        /**
         * The differences in WIDTH of a rota are, for each step up from one width to the next, the step
         * times how often the hours change between narrower and wider riders. So riders come by width.
         */
        private void orderByWidth(int[] width, int crew) {
            for (int k = 1; k < crew; k++) {
                for (int j = k; j > 0 && width[order[j]] < width[order[j - 1]]; j--) {
                    int narrow = order[j];
                    order[j] = order[j - 1];
                    order[j - 1] = narrow;
                }
            }
            for (int k = 1; k < crew; k++) {
                step[k - 1] = width[order[k]] - width[order[k - 1]];
            }
        }

        /** The least cost of all hours together, NO_ROTA or more without. */
        private long least() {
            Arrays.fill(best, NO_ROTA);
            best[0] = 0;
            for (int k = 0; k < MOST_RIDERS; k++) {
                weigh(order[k]);
                addLeast(may[order[k]]);
                addStep(step[k]);
            }
            return best[full];
        }

        /** The least that the one with the most cost has, NO_ROTA without. */
        private long leastMost() {
            Arrays.fill(best, NO_ROTA);
            best[0] = 0;
            for (int r = 0; r < MOST_RIDERS; r++) {
                weigh(r);
                addLeastMost(may[r]);
            }
            return best[full];
        }

        /** Behind least(): whether these hours can be held together. */
        private boolean canHold(int hours) {
            return best[hours & full] < NO_ROTA;
        }

        /** What each set of hours that a rider may ride costs, NO_ROTA if it is too much. */
        private void weigh(int rider) {
            weight[0] = 0;
            for (int set = 1; set <= full; set++) {
                if ((set & ~may[rider]) != 0) {
                    continue;
                }
                int rest = set & (set - 1);
                long v = weight[rest] + cost[rider * MOST_HOURS + lowest(set)];
                v += rest == 0 ? flat[rider] : 0;
                weight[set] = Integer.bitCount(set) > most[rider] || v > limit ? NO_ROTA : v;
            }
        }

        /** One rider more, who may ride these hours; larger sets first, for they look at smaller ones. */
        private void addLeast(int hours) {
            for (int set = full; set > 0; set--) {
                int part = set & hours;
                long low = best[set];
                for (int own = part; own > 0; own = (own - 1) & part) {
                    long v = best[set ^ own] + weight[own];
                    if (v < low) {
                        low = v;
                    }
                }
                best[set] = low;
            }
        }

        private void addLeastMost(int hours) {
            for (int set = full; set > 0; set--) {
                int part = set & hours;
                long low = best[set];
                for (int own = part; own > 0; own = (own - 1) & part) {
                    long v = best[set ^ own] > weight[own] ? best[set ^ own] : weight[own];
                    if (v < low) {
                        low = v;
                    }
                }
                best[set] = low;
            }
        }

        private void addStep(int wider) {
            if (wider == 0) {
                return;
            }
            for (int set = 0; set <= full; set++) {
                int edges = Integer.bitCount((set ^ set >> 1) & full >> 1);
                best[set] += (long) (wider * edges) << NAME_BITS;
            }
        }

        /** How many HELD rotas there are. */
        private int ways() {
            for (int set = 0; set < SETS; set++) {
                ahead[set] = set == 0 ? 1 : 0;
            }
            for (int r = 0; r < MOST_RIDERS; r++) {
                addWays(ahead, r * SETS, (r + 1) * SETS, r);
            }
            return ahead[MOST_RIDERS * SETS + full];
        }

        /** One rider more: in how many ways each set is held, from one place of a row to another. */
        private void addWays(int[] row, int from, int to, int rider) {
            weigh(rider);
            for (int set = full; set >= 0; set--) {
                int part = set & may[rider];
                int together = row[from + set];
                for (int own = part; own > 0; own = (own - 1) & part) {
                    if (weight[own] < NO_ROTA) {
                        together += row[from + (set ^ own)];
                    }
                }
                row[to + set] = together;
            }
        }

        /** Behind ways(): in how many rotas each rider has each hour. */
        private void tallyAll() {
            Arrays.fill(tally, 0);
            Arrays.fill(behind, 0);
            behind[0] = 1;
            for (int r = MOST_RIDERS - 1; r >= 0; r--) {
                tallyRider(r);
                addWays(behind, 0, 0, r);
            }
        }

        private void tallyRider(int rider) {
            for (int own = may[rider]; own > 0; own = (own - 1) & may[rider]) {
                if (Integer.bitCount(own) <= most[rider]) {
                    int ways = waysRound(rider, full ^ own);
                    for (int h = 0; h < MOST_HOURS; h++) {
                        tally[h * MOST_RIDERS + rider] += (own >> h & 1) == 1 ? ways : 0;
                    }
                }
            }
        }

        /** In how many ways the riders ahead of one and those behind it hold the rest. */
        private int waysRound(int rider, int rest) {
            int ways = ahead[rider * SETS] * behind[rest];
            for (int part = rest; part > 0; part = (part - 1) & rest) {
                ways += ahead[rider * SETS + part] * behind[rest ^ part];
            }
            return ways;
        }

        private int mostIn(int hour) {
            int most = 0;
            for (int r = 0; r < MOST_RIDERS; r++) {
                most = Math.max(most, tally[hour * MOST_RIDERS + r]);
            }
            return most;
        }

        /**
         * Finds which sets of riders can't hold the night: those who, for some hours, have fewer rides
         * among them than these hours are (Hall).
         */
        private void findLacks() {
            for (int who = 0; who < SETS; who++) {
                lack[who] = who == 0;
            }
            for (int hours = 1; hours <= full; hours++) {
                findLacksIn(hours);
            }
        }

        private void findLacksIn(int hours) {
            int due = Integer.bitCount(hours);
            reach[0] = 0;
            for (int r = 0; r < MOST_RIDERS; r++) {
                int own = 1 << r;
                int rides = Math.min(most[r], Integer.bitCount(may[r] & hours));
                for (int others = 0; others < own; others++) {
                    int together = reach[others] + rides;
                    reach[others + own] = together;
                    if (together < due) {
                        lack[others + own] = true;
                    }
                }
            }
        }

        private boolean lacks(int who) {
            return lack[who & (SETS - 1)];
        }
    }
}
