import java.util.NoSuchElementException;

/** Shadows in the ledger: who shades whom in a market, what is due for it, and what would be due otherwise. */
public final class ShadeLedger {
    public static final int NONE = -1;

    private static final int DAY = 1440;
    private static final int HOUR = 60;
    private static final int HOURS = 24;
    private static final int LAST_DAY = 999;
    private static final int MOST_DAYS = 99;
    private static final int MOST_BYTES = 600;
    private static final int FED_BYTES = 20;
    private static final int MOST_CLAUSES = 60;
    private static final int MOST_CHANGES = 20;
    private static final int MOST_STALLS = 8;
    /** One row more than there are stalls: for a pole, or for what stood there. */
    private static final int ROOM = MOST_STALLS + 1;
    private static final int MOST_HEIGHT = 60;
    private static final int MOST_AWNING = 3;
    private static final int MOST_DUE = 99999;
    private static final int MOST_SEEDS = 60;
    private static final int MOST_IMAGES = 3;
    private static final int MOST_ROUNDS = 20;
    /** Far above the ways in which eight stalls can stand on eight cells. */
    private static final int MOST_EXCHANGES = 100000;
    /** Far above all that can be due in a day. */
    private static final int NO_BOUND = 1000000000;

    private static final int DIRECTIONS = 9;
    private static final int NOWHERE = 4;
    /** A slot is 10 times a direction (I and 3 J), and cells for each 10 of height. */
    private static final int SLOTS = 10 * DIRECTIONS;

    private final Reader reader = new Reader();
    private final Images images = new Images();
    private final Payer payer = new Payer();
    private final Plans plans = new Plans();
    private final Shadows shadows = plans.shadows;
    private Market market = shadows.market;
    private Market draft = new Market();
    private int refusedStalls = 0;
    private int refusedArguments = 0;

    public ShadeLedger() {
    }

    public int feed(int a, int b, int c, int d, int e) {
        if (reader.bytes + FED_BYTES > MOST_BYTES) {
            return NONE;
        }
        reader.append(a);
        reader.append(b);
        reader.append(c);
        reader.append(d);
        reader.append(e);
        return reader.bytes;
    }

    public int market(int n) throws IllegalArgumentException {
        require(n >= 0 && n <= reader.bytes);
        int kind = reader.read(n, draft);
        if (kind != 0) {
            return kind - 10;
        }
        Market before = market;
        market = draft;
        draft = before;
        shadows.look(market);
        images.many = 0;
        plans.rounds = 0;
        return market.stalls.many;
    }

    public int fault() {
        return reader.place;
    }

    public int told(int what) throws IllegalArgumentException {
        require(what >= 0 && what <= 7);
        switch (what) {
            case 0:
                return market.width;
            case 1:
                return market.depth;
            case 2:
                return market.stalls.many;
            case 3:
                return market.day;
            case 4:
                return market.winter;
            case 5:
                return market.fold;
            case 6:
                return market.dusk;
            default:
                return market.cloud;
        }
    }

    public int stall(int stall, int what) throws NoSuchElementException, IllegalArgumentException {
        requireStall(stall);
        require(what >= 0 && what <= 6);
        Stalls stalls = market.stalls;
        switch (what) {
            case 0:
                return stalls.x[stall];
            case 1:
                return stalls.y[stall];
            case 2:
                return stalls.height[stall];
            case 3:
                return stalls.awning[stall];
            case 4:
                return stalls.grows[stall];
            case 5:
                return stalls.top[stall];
            default:
                return stalls.lantern[stall];
        }
    }

    public int length(int stall, int minute) throws NoSuchElementException, IllegalArgumentException {
        requireStall(stall);
        require(isMinute(minute));
        return shadows.reach(stall, minute);
    }

    public boolean shades(int stall, int other, int minute) throws NoSuchElementException, IllegalArgumentException {
        requireTwo(stall, other);
        require(isMinute(minute));
        return shadows.falls(stall, other, market.sunAt(minute));
    }

    public int under(int stall, int minute) throws NoSuchElementException, IllegalArgumentException {
        requireStall(stall);
        require(isMinute(minute));
        return shadows.throwers(stall, market.sunAt(minute));
    }

    public int minutes(int stall, int other) throws NoSuchElementException, IllegalArgumentException {
        requireTwo(stall, other);
        return shadows.minutes.at(shadows.need(stall, other));
    }

    public int chill(int stall) throws NoSuchElementException {
        requireStall(stall);
        return shadows.chillOf(stall);
    }

    public int owes(int stall, int other, int minute) throws NoSuchElementException, IllegalArgumentException {
        requireTwo(stall, other);
        require(isEnd(minute));
        return shadows.owed(shadows.costsOf(0, minute), stall, other);
    }

    public int net(int stall, int minute) throws NoSuchElementException, IllegalArgumentException {
        requireStall(stall);
        require(isEnd(minute));
        return shadows.gain(shadows.costsOf(0, minute), stall);
    }

    public int payments(int minute) throws IllegalArgumentException {
        require(isEnd(minute));
        return payer.fewest(shadows, minute);
    }

    public int due() {
        return shadows.total(shadows.costs, NO_BOUND);
    }

    public int first(int minute) throws IllegalArgumentException {
        require(isMinute(minute));
        return shadows.firstShade(minute);
    }

    public int winter(int is) throws IllegalArgumentException {
        require(isBit(is));
        int was = market.winter;
        market.winter = is;
        return was;
    }

    public int move(int stall, int x, int y) throws NoSuchElementException, IllegalArgumentException {
        requireStall(stall);
        require(x >= 0 && x < market.width && y >= 0 && y < market.depth);
        if (market.stalls.whoIsAt(x, y) != NONE) {
            return 0;
        }
        market.stalls.put(stall, x, y);
        return 1;
    }

    public int tall(int stall, int height) throws NoSuchElementException, IllegalArgumentException {
        requireStall(stall);
        require(isHeight(height));
        int was = market.stalls.height[stall];
        market.stalls.height[stall] = height;
        return was;
    }

    public int set(int stalls, int what) throws IllegalArgumentException {
        int many = Integer.bitCount(stalls);
        require(many >= 1 && many <= 2 && stalls > 0 && stalls < 1 << market.stalls.many && isBit(what));
        int one = lowestBit(stalls, 0);
        plans.placeAnew(one, lowestBit(stalls, one + 1));
        return what == 0 ? plans.bestDue : plans.bestCells;
    }

    public int exchange() {
        return plans.bestExchange();
    }

    public int pole(int height, int what) throws IllegalArgumentException {
        require(isHeight(height) && isBit(what));
        plans.placePole(height);
        if (plans.bestCells == NONE) {
            return NONE;
        }
        return what == 0 ? plans.bestCells : plans.bestDue;
    }

    public int wish(int stall) throws NoSuchElementException {
        requireStall(stall);
        return plans.wishOf(stall);
    }

    public int play() {
        return plans.playOut() ? 1 : 0;
    }

    public int rounds() {
        return plans.rounds;
    }

    public int cold(int stall, int minutes) throws NoSuchElementException, IllegalArgumentException {
        requireStall(stall);
        require(minutes == NONE || isEnd(minutes));
        int was = market.stalls.cold[stall];
        market.stalls.cold[stall] = minutes;
        return was;
    }

    public int what(int what) throws IllegalArgumentException {
        require(isBit(what));
        plans.explain();
        return what == 0 ? plans.explained : plans.firstExplained;
    }

    public int days(int n) throws IllegalArgumentException {
        require(n >= 1 && n <= MOST_DAYS);
        for (int i = 0; i < n && market.day < LAST_DAY; i++) {
            market.day++;
            market.stalls.grow();
        }
        return market.day;
    }

    public int when(int much) throws IllegalArgumentException {
        require(isDue(much));
        return plans.daysTillAbove(much);
    }

    public int clouds(int seed, int what) throws IllegalArgumentException {
        require(isBit(what));
        int hours = market.cloudsDrawn(seed);
        if (what == 1) {
            return hours;
        }
        shadows.reckonHours();
        return shadows.dueWithout(hours);
    }

    public int span(int seed, int many, int what) throws IllegalArgumentException {
        require(many >= 1 && many <= MOST_SEEDS && isBit(what));
        shadows.reckonHours();
        int best = shadows.dueWithout(market.cloudsDrawn(seed));
        for (int i = 1; i < many; i++) {
            int now = shadows.dueWithout(market.cloudsDrawn(seed + i));
            best = what == 0 ? Math.min(best, now) : Math.max(best, now);
        }
        return best;
    }

    public int led(int stall, int by) throws NoSuchElementException, IllegalArgumentException {
        requireTwo(stall, by);
        return shadows.ledTo(stall, by);
    }

    public int whose(int stall) throws NoSuchElementException {
        requireStall(stall);
        int most = 0;
        int who = NONE;
        for (int by = 0; by < market.stalls.many; by++) {
            int led = by == stall ? 0 : shadows.ledTo(stall, by);
            if (led > most) {
                most = led;
                who = by;
            }
        }
        return who;
    }

    public int harmless(int stall) throws NoSuchElementException {
        requireStall(stall);
        return plans.greatestHarmless(stall);
    }

    public int folded(int much) throws IllegalArgumentException {
        require(isDue(much));
        return shadows.latestFold(much);
    }

    public int awned(int stall, int what) throws NoSuchElementException, IllegalArgumentException {
        requireStall(stall);
        require(isBit(what));
        plans.tryAwnings(stall);
        return what == 0 ? plans.bestAwning : plans.bestGain;
    }

    public int lights() {
        return shadows.dueByLanterns();
    }

    public int hour(int what) throws IllegalArgumentException {
        require(isBit(what));
        shadows.reckonHours();
        int best = 0;
        for (int i = 1; i < HOURS; i++) {
            if (shadows.hourDue[i] > shadows.hourDue[best]) {
                best = i;
            }
        }
        return what == 0 ? best : shadows.hourDue[best];
    }

    public int improved(int what) throws IllegalArgumentException {
        require(isBit(what));
        int times = plans.exchangeOn();
        return what == 0 ? times : plans.bestDue;
    }

    public int out(int stall) throws NoSuchElementException {
        requireStall(stall);
        market.stalls.gone = stall;
        int sum = shadows.total(shadows.costs, NO_BOUND);
        market.stalls.gone = NONE;
        return sum;
    }

    public int suns() {
        return shadows.dearestSun();
    }

    public int image() {
        return images.take(market);
    }

    public int restore() {
        return images.giveBack(market);
    }

    public int status(int what) {
        if (what == 0) {
            return refusedStalls;
        }
        return what == 1 ? refusedArguments : NONE;
    }

    public int count(int what) {
        if (what == 0) {
            return images.many;
        }
        return what == 1 ? reader.bytes : NONE;
    }

    private void requireStall(int stall) {
        if (stall < 0 || stall >= market.stalls.many) {
            refusedStalls++;
            throw new NoSuchElementException("no such stall");
        }
    }

    private void requireTwo(int stall, int other) {
        requireStall(stall);
        requireStall(other);
        require(stall != other);
    }

    private void require(boolean good) {
        if (!good) {
            refusedArguments++;
            throw new IllegalArgumentException("no such argument");
        }
    }

    private static boolean isMinute(int minute) {
        return minute >= 0 && minute < DAY;
    }

    private static boolean isEnd(int minute) {
        return minute >= 0 && minute <= DAY;
    }

    private static boolean isBit(int number) {
        return number == 0 || number == 1;
    }

    private static boolean isHeight(int height) {
        return height >= 0 && height <= MOST_HEIGHT;
    }

    private static boolean isDue(int much) {
        return much >= 0 && much <= MOST_DUE;
    }

    private static int lowestBit(int bits, int from) {
        for (int i = from; i < MOST_STALLS; i++) {
            if ((bits >>> i & 1) == 1) {
                return i;
            }
        }
        return NONE;
    }

    /** Values that hold from a minute on, by minutes; of one minute the last told counts. */
    private static final class Changes {
        private final int[] from = new int[MOST_CHANGES];
        private final int[] value = new int[MOST_CHANGES];
        private int many = 0;

        private void tell(int minute, int what) {
            int at = 0;
            while (at < many && from[at] < minute) {
                at++;
            }
            if (at < many && from[at] == minute) {
                value[at] = what;
                return;
            }
            if (many >= MOST_CHANGES) {
                return;
            }
            for (int i = many; i > at; i--) {
                from[i] = from[i - 1];
                value[i] = value[i - 1];
            }
            from[at] = minute;
            value[at] = what;
            many++;
        }

        private int endOf(int i) {
            return i + 1 < many ? from[i + 1] : DAY;
        }

        private int valueAt(int minute, int ahead) {
            int now = ahead;
            for (int i = 0; i < many && from[i] <= minute; i++) {
                now = value[i];
            }
            return now;
        }
    }

    /** The stalls by rows, with what their fish told. */
    private static final class Stalls {
        private final int[] x = new int[ROOM];
        private final int[] y = new int[ROOM];
        private final int[] height = new int[ROOM];
        private final int[] awning = new int[ROOM];
        private final int[] grows = new int[ROOM];
        private final int[] top = new int[ROOM];
        private final int[] lantern = new int[ROOM];
        private final int[] cold = new int[ROOM];
        private int many = 0;
        /** A stall that is taken as not there while a question is answered. */
        private int gone = NONE;

        private void add(int column, int row, int tallness) {
            if (many >= ROOM) {
                return;
            }
            x[many] = column;
            y[many] = row;
            height[many] = tallness;
            awning[many] = 0;
            grows[many] = 0;
            top[many] = 0;
            lantern[many] = 0;
            cold[many] = NONE;
            many++;
        }

        private void put(int stall, int column, int row) {
            x[stall] = column;
            y[stall] = row;
        }

        private int whoIsAt(int column, int row) {
            for (int i = 0; i < many; i++) {
                if (x[i] == column && y[i] == row) {
                    return i;
                }
            }
            return NONE;
        }

        private void swapCells(int one, int other) {
            int column = x[one];
            int row = y[one];
            put(one, x[other], y[other]);
            put(other, column, row);
        }

        private void grow() {
            for (int i = 0; i < many; i++) {
                if (height[i] < top[i]) {
                    height[i] = Math.min(top[i], height[i] + grows[i]);
                }
            }
        }
    }

    /** What a text tells, and what has become of it. */
    private static final class Market {
        private final Stalls stalls = new Stalls();
        private final Changes suns = new Changes();
        private final Changes rates = new Changes();
        private int width;
        private int depth;
        private int fold;
        private int dusk;
        private int cloud;
        private int day;
        private int winter;

        private Market() {
            clear();
        }

        private void clear() {
            stalls.many = 0;
            suns.many = 0;
            rates.many = 0;
            width = 6;
            depth = 4;
            fold = DAY;
            dusk = DAY;
            cloud = 0;
            day = 0;
            winter = 0;
        }

        /** The slot of the sun that throws shadows then; NONE, if none does. */
        private int sunAt(int minute) {
            return minute >= fold ? NONE : suns.valueAt(minute, NONE);
        }

        private int costBefore(int minute) {
            int sum = 0;
            int from = 0;
            int rate = 1;
            for (int i = 0; i < rates.many; i++) {
                int start = Math.min(rates.from[i], minute);
                sum += (start - from) * rate;
                from = start;
                rate = rates.value[i];
            }
            return sum + (minute - from) * rate;
        }

        private void weighCosts(Weights into, int from, int to) {
            into.clear();
            for (int i = 0; i < suns.many; i++) {
                int start = Math.max(from, suns.from[i]);
                int stop = Math.min(Math.min(to, fold), suns.endOf(i));
                if (start < stop) {
                    int all = costBefore(stop);
                    int dark = Math.min(Math.max(start, dusk), stop);
                    into.add(suns.value[i], all - costBefore(start), all - costBefore(dark));
                }
            }
            into.heap();
        }

        private void weighMinutes(Weights into) {
            into.clear();
            for (int i = 0; i < suns.many; i++) {
                int stop = Math.min(fold, suns.endOf(i));
                if (suns.from[i] < stop) {
                    into.add(suns.value[i], stop - suns.from[i], 0);
                }
            }
            into.heap();
        }

        private int cloudsDrawn(int seed) {
            int hours = 0;
            int now = seed;
            for (int i = 0; i < HOURS; i++) {
                now = now * 1103515245 + 12345;
                if ((now >>> 16 & 7) < cloud) {
                    hours |= 1 << i;
                }
            }
            return hours;
        }
    }

    /** Sums by slots: of a slot, of all suns of its direction that reach as far or farther. */
    private static final class Weights {
        private final int[] plain = new int[SLOTS];
        private final int[] byLantern = new int[SLOTS];

        private void clear() {
            for (int i = 0; i < SLOTS; i++) {
                plain[i] = 0;
                byLantern[i] = 0;
            }
        }

        private void add(int slot, int much, int more) {
            if (slot >= 0 && slot < SLOTS) {
                plain[slot] += much;
                byLantern[slot] += more;
            }
        }

        private void heap() {
            for (int i = SLOTS - 2; i >= 0; i--) {
                if (i % 10 != 9) {
                    plain[i] += plain[i + 1];
                    byLantern[i] += byLantern[i + 1];
                }
            }
        }

        private int at(int slot) {
            return slot >= 0 && slot < SLOTS ? plain[slot] : 0;
        }

        private int lanternsAt(int slot) {
            return slot >= 0 && slot < SLOTS ? byLantern[slot] : 0;
        }

        private int priceAt(int slot, int lantern) {
            if (slot < 0 || slot >= SLOTS) {
                return 0;
            }
            return lantern == 1 ? plain[slot] + byLantern[slot] : plain[slot];
        }
    }

    /** Who shades whom in a market, and what is due for it. */
    private static final class Shadows {
        private final Weights costs = new Weights();
        private final Weights minutes = new Weights();
        private final Weights part = new Weights();
        private final int[] least = new int[DIRECTIONS];
        private final int[] hourDue = new int[HOURS];
        private Market market = new Market();

        private void look(Market at) {
            market = at;
            market.weighCosts(costs, 0, DAY);
            market.weighMinutes(minutes);
        }

        private Weights costsOf(int from, int to) {
            market.weighCosts(part, from, to);
            return part;
        }

        private int cellsFor(int height, int each) {
            return height * each * (market.winter == 1 ? 2 : 1) / 10;
        }

        private int reach(int stall, int minute) {
            int sun = market.sunAt(minute);
            if (sun == NONE || sun / 10 == NOWHERE) {
                return 0;
            }
            return cellsFor(market.stalls.height[stall], sun % 10);
        }

        private boolean isInLine(int one, int other) {
            int across = market.stalls.x[other] - market.stalls.x[one];
            int down = market.stalls.y[other] - market.stalls.y[one];
            return across == 0 || down == 0 || across == down || across == -down;
        }

        /** The least slot that a sun must have so that one shades the other; NONE, if no sun can. */
        private int need(int one, int other) {
            if (!isInLine(one, other)) {
                return NONE;
            }
            Stalls stalls = market.stalls;
            int across = stalls.x[other] - stalls.x[one];
            int down = stalls.y[other] - stalls.y[one];
            int steps = Math.max(Math.abs(across), Math.abs(down));
            int tenths = cellsFor(stalls.height[one], 10);
            if (steps == 0 || tenths <= 0) {
                return NONE;
            }
            int right = sign(across);
            int below = sign(down);
            int each = (10 * steps + tenths - 1) / tenths;
            if (each > 9 || isKeptOff(one, other, right, below, steps)) {
                return NONE;
            }
            return 10 * (right + 1 + 3 * (below + 1)) + each;
        }

        private static int sign(int number) {
            if (number == 0) {
                return 0;
            }
            return number < 0 ? -1 : 1;
        }

        /** Whether the awning of a third one, or a taller one between, keeps the shadow off. */
        private boolean isKeptOff(int one, int other, int right, int below, int steps) {
            Stalls stalls = market.stalls;
            for (int i = 0; i < stalls.many; i++) {
                if (i != one && i != other && i != stalls.gone) {
                    int across = stalls.x[other] - stalls.x[i];
                    int down = stalls.y[other] - stalls.y[i];
                    if (across == 0 && down > 0 && down <= stalls.awning[i]) {
                        return true;
                    }
                    int back = right == 0 ? down * below : across * right;
                    if (stalls.height[i] > stalls.height[one] && back > 0 && back < steps
                            && across == right * back && down == below * back) {
                        return true;
                    }
                }
            }
            return false;
        }

        private boolean falls(int one, int other, int sun) {
            if (sun == NONE) {
                return false;
            }
            int need = need(one, other);
            return need != NONE && need <= sun && need / 10 == sun / 10;
        }

        private int throwers(int stall, int sun) {
            int bits = 0;
            for (int i = 0; i < market.stalls.many; i++) {
                if (i != stall && falls(i, stall, sun)) {
                    bits |= 1 << i;
                }
            }
            return bits;
        }

        private int owed(Weights by, int one, int other) {
            return by.priceAt(need(one, other), market.stalls.lantern[one]);
        }

        private int gain(Weights by, int stall) {
            Stalls stalls = market.stalls;
            int sum = 0;
            for (int i = 0; i < stalls.many; i++) {
                if (i != stall) {
                    sum += by.priceAt(need(i, stall), stalls.lantern[i]);
                    sum -= by.priceAt(need(stall, i), stalls.lantern[stall]);
                }
            }
            return sum;
        }

        /** All that is due; a sum that comes up to enough may be cut there. */
        private int total(Weights by, int enough) {
            Stalls stalls = market.stalls;
            int sum = 0;
            for (int i = 0; i < stalls.many; i++) {
                for (int j = 0; j < stalls.many && i != stalls.gone && sum < enough; j++) {
                    if (i != j && j != stalls.gone) {
                        sum += by.priceAt(need(i, j), stalls.lantern[i]);
                    }
                }
            }
            return sum;
        }

        private int dueByLanterns() {
            Stalls stalls = market.stalls;
            int sum = 0;
            for (int i = 0; i < stalls.many; i++) {
                for (int j = 0; j < stalls.many && stalls.lantern[i] == 1; j++) {
                    if (i != j) {
                        sum += costs.lanternsAt(need(i, j));
                    }
                }
            }
            return sum;
        }

        /** By direction the fewest cells for each 10 by which anybody but one shades a stall; 10: nobody. */
        private void findLeast(int stall, int but) {
            for (int i = 0; i < DIRECTIONS; i++) {
                least[i] = 10;
            }
            for (int i = 0; i < market.stalls.many; i++) {
                int need = i == stall || i == but ? NONE : need(i, stall);
                if (need >= 0 && need < SLOTS) {
                    least[need / 10] = Math.min(least[need / 10], need % 10);
                }
            }
        }

        private int minutesFrom(int direction, int each) {
            return each > 9 ? 0 : minutes.at(10 * direction + each);
        }

        private int chillOf(int stall) {
            findLeast(stall, NONE);
            int sum = 0;
            for (int i = 0; i < DIRECTIONS; i++) {
                sum += minutesFrom(i, least[i]);
            }
            return sum;
        }

        private int ledTo(int stall, int by) {
            int need = need(by, stall);
            if (need < 0 || need >= SLOTS) {
                return 0;
            }
            findLeast(stall, by);
            int direction = need / 10;
            return Math.max(0, minutes.at(need) - minutesFrom(direction, least[direction]));
        }

        private boolean harms(int stall) {
            for (int i = 0; i < market.stalls.many; i++) {
                if (i != stall && minutes.at(need(stall, i)) > 0) {
                    return true;
                }
            }
            return false;
        }

        private int firstShade(int minute) {
            Changes suns = market.suns;
            for (int i = 0; i < suns.many; i++) {
                int start = Math.max(minute, suns.from[i]);
                if (start < Math.min(market.fold, suns.endOf(i)) && isAnybodyUnder(suns.value[i])) {
                    return start;
                }
            }
            return NONE;
        }

        private boolean isAnybodyUnder(int sun) {
            for (int i = 0; i < market.stalls.many; i++) {
                if (throwers(i, sun) != 0) {
                    return true;
                }
            }
            return false;
        }

        private void reckonHours() {
            for (int i = 0; i < HOURS; i++) {
                hourDue[i] = total(costsOf(HOUR * i, HOUR * i + HOUR), NO_BOUND);
            }
        }

        private int dueWithout(int hours) {
            int sum = 0;
            for (int i = 0; i < HOURS; i++) {
                if ((hours >>> i & 1) == 0) {
                    sum += hourDue[i];
                }
            }
            return sum;
        }

        /** Halving is enough: what is due never gets less by folding later. */
        private int latestFold(int much) {
            int good = 0;
            int bad = market.fold + 1;
            for (int i = 0; i < DAY && good + 1 < bad; i++) {
                int middle = (good + bad) / 2;
                if (total(costsOf(0, middle), NO_BOUND) <= much) {
                    good = middle;
                } else {
                    bad = middle;
                }
            }
            return good;
        }

        private int dearestSun() {
            Changes suns = market.suns;
            int most = 0;
            int minute = NONE;
            for (int i = 0; i < suns.many; i++) {
                int sum = total(costsOf(suns.from[i], suns.endOf(i)), NO_BOUND);
                if (sum > most) {
                    most = sum;
                    minute = suns.from[i];
                }
            }
            return minute;
        }
    }

    /** What would be otherwise: cells, heights and awnings are tried and put back. */
    private static final class Plans {
        private final Shadows shadows = new Shadows();
        private final int[] keptX = new int[ROOM];
        private final int[] keptY = new int[ROOM];
        private final int[] keptHeight = new int[ROOM];
        private final int[] chillNow = new int[ROOM];
        private final long[] seen = new long[MOST_ROUNDS + 1];
        private int bestDue = 0;
        private int bestCells = NONE;
        private int bestAwning = 0;
        private int bestGain = 0;
        private int explained = 0;
        private int firstExplained = NONE;
        private int rounds = 0;

        private Stalls stalls() {
            return shadows.market.stalls;
        }

        private void keepCells() {
            System.arraycopy(stalls().x, 0, keptX, 0, ROOM);
            System.arraycopy(stalls().y, 0, keptY, 0, ROOM);
        }

        private void putCellsBack() {
            System.arraycopy(keptX, 0, stalls().x, 0, ROOM);
            System.arraycopy(keptY, 0, stalls().y, 0, ROOM);
        }

        private void startSearch() {
            bestDue = NO_BOUND;
            bestCells = NONE;
        }

        /** Only what is less counts, so of alike ways the first stays. */
        private void weighWay(int cells) {
            int now = shadows.total(shadows.costs, bestDue);
            if (now < bestDue) {
                bestDue = now;
                bestCells = cells;
            }
        }

        private void placeAnew(int one, int other) {
            keepCells();
            startSearch();
            Market market = shadows.market;
            for (int row = 0; row < market.depth; row++) {
                for (int column = 0; column < market.width && bestDue > 0; column++) {
                    int who = stalls().whoIsAt(column, row);
                    if (isFreeFor(who, one, other)) {
                        stalls().put(one, column, row);
                        placeOther(other, column + 10 * row);
                    }
                    putCellsBack();
                }
            }
        }

        private static boolean isFreeFor(int who, int one, int other) {
            return who == NONE || who == one || who == other;
        }

        private void placeOther(int other, int cell) {
            if (other == NONE) {
                weighWay(cell);
                return;
            }
            Market market = shadows.market;
            for (int row = 0; row < market.depth; row++) {
                for (int column = 0; column < market.width && bestDue > 0; column++) {
                    if (isFreeBut(other, column, row)) {
                        stalls().put(other, column, row);
                        weighWay(100 * cell + column + 10 * row);
                    }
                }
            }
        }

        private boolean isFreeBut(int stall, int column, int row) {
            Stalls stalls = stalls();
            for (int i = 0; i < stalls.many; i++) {
                if (i != stall && stalls.x[i] == column && stalls.y[i] == row) {
                    return false;
                }
            }
            return true;
        }

        private int bestExchange() {
            Stalls stalls = stalls();
            int pair = NONE;
            bestDue = shadows.total(shadows.costs, NO_BOUND);
            for (int i = 0; i < stalls.many; i++) {
                for (int j = i + 1; j < stalls.many; j++) {
                    stalls.swapCells(i, j);
                    int now = shadows.total(shadows.costs, bestDue);
                    stalls.swapCells(i, j);
                    if (now < bestDue) {
                        bestDue = now;
                        pair = 10 * i + j;
                    }
                }
            }
            return pair;
        }

        /** Leaves in bestDue what is due when no exchange is left. */
        private int exchangeOn() {
            keepCells();
            int times = 0;
            int pair = bestExchange();
            for (int i = 0; i < MOST_EXCHANGES && pair != NONE; i++) {
                stalls().swapCells(pair / 10, pair % 10);
                times++;
                pair = bestExchange();
            }
            putCellsBack();
            return times;
        }

        private void placePole(int height) {
            startSearch();
            Market market = shadows.market;
            Stalls stalls = stalls();
            if (stalls.many >= MOST_STALLS) {
                return;
            }
            for (int row = 0; row < market.depth; row++) {
                for (int column = 0; column < market.width; column++) {
                    if (stalls.whoIsAt(column, row) == NONE) {
                        stalls.add(column, row, height);
                        weighWay(column + 10 * row);
                        stalls.many--;
                    }
                }
            }
        }

        private int wishOf(int stall) {
            Stalls stalls = stalls();
            int own = stalls.height[stall];
            int to = stalls.top[stall] == 0 ? own : stalls.top[stall];
            int best = 0;
            int most = 0;
            for (int i = 0; i <= to; i++) {
                stalls.height[stall] = i;
                int now = shadows.gain(shadows.costs, stall) + i;
                if (i == 0 || now > most) {
                    most = now;
                    best = i;
                }
            }
            stalls.height[stall] = own;
            return best;
        }

        private boolean playOut() {
            seen[0] = heights();
            for (int i = 1; i <= MOST_ROUNDS; i++) {
                rounds = i;
                if (!playRound()) {
                    return true;
                }
                seen[i] = heights();
                if (isSeenBefore(i)) {
                    return false;
                }
            }
            return false;
        }

        private boolean playRound() {
            Stalls stalls = stalls();
            boolean changed = false;
            for (int i = 0; i < stalls.many; i++) {
                int wished = wishOf(i);
                if (wished != stalls.height[i]) {
                    stalls.height[i] = wished;
                    changed = true;
                }
            }
            return changed;
        }

        private boolean isSeenBefore(int round) {
            for (int i = 0; i < round; i++) {
                if (seen[i] == seen[round]) {
                    return true;
                }
            }
            return false;
        }

        /** All heights in one number: none is above 60, so six bits hold each. */
        private long heights() {
            Stalls stalls = stalls();
            long all = 0;
            for (int i = 0; i < stalls.many; i++) {
                all = all << 6 | stalls.height[i];
            }
            return all;
        }

        private void explain() {
            Market market = shadows.market;
            Stalls stalls = stalls();
            explained = 0;
            firstExplained = NONE;
            for (int i = 0; i < stalls.many; i++) {
                chillNow[i] = shadows.chillOf(i);
            }
            for (int row = 0; row < market.depth; row++) {
                for (int column = 0; column < market.width; column++) {
                    if (stalls.whoIsAt(column, row) == NONE) {
                        explainBy(column, row);
                    }
                }
            }
        }

        private void explainBy(int column, int row) {
            Stalls stalls = stalls();
            for (int i = 1; i <= MOST_HEIGHT; i++) {
                stalls.add(column, row, i);
                boolean good = isAsTold(stalls.many - 1);
                stalls.many--;
                if (good) {
                    explained++;
                }
                if (good && firstExplained == NONE) {
                    firstExplained = 100 * i + column + 10 * row;
                }
            }
        }

        /** Whether the last one explains what all fish ahead of it tell. */
        private boolean isAsTold(int last) {
            int[] cold = stalls().cold;
            for (int i = 0; i < last; i++) {
                if (cold[i] != NONE) {
                    // What is in no line with a stall neither shades it nor keeps shadows off it.
                    int more = shadows.isInLine(last, i) ? shadows.chillOf(i) - chillNow[i] : 0;
                    if (more != cold[i]) {
                        return false;
                    }
                }
            }
            return true;
        }

        private int daysTillAbove(int much) {
            Stalls stalls = stalls();
            System.arraycopy(stalls.height, 0, keptHeight, 0, ROOM);
            int found = NONE;
            for (int i = 0; i <= MOST_DAYS && found == NONE; i++) {
                if (shadows.total(shadows.costs, NO_BOUND) > much) {
                    found = i;
                }
                stalls.grow();
            }
            System.arraycopy(keptHeight, 0, stalls.height, 0, ROOM);
            return found;
        }

        private int greatestHarmless(int stall) {
            Stalls stalls = stalls();
            int own = stalls.height[stall];
            int found = NONE;
            for (int i = MOST_HEIGHT; i >= 0 && found == NONE; i--) {
                stalls.height[stall] = i;
                if (!shadows.harms(stall)) {
                    found = i;
                }
            }
            stalls.height[stall] = own;
            return found;
        }

        private void tryAwnings(int stall) {
            Stalls stalls = stalls();
            int own = stalls.awning[stall];
            for (int i = 0; i <= MOST_AWNING; i++) {
                stalls.awning[stall] = i;
                int now = shadows.gain(shadows.costs, stall);
                if (i == 0 || now > bestGain) {
                    bestGain = now;
                    bestAwning = i;
                }
            }
            stalls.awning[stall] = own;
        }
    }

    /** The fewest payments: by sets of stalls, as bits, the most parts of nets together 0. */
    private static final class Payer {
        private final int[] nets = new int[MOST_STALLS];
        private final int[] sum = new int[1 << MOST_STALLS];
        private final int[] parts = new int[1 << MOST_STALLS];

        private int fewest(Shadows shadows, int minute) {
            int many = gatherNets(shadows, shadows.costsOf(0, minute));
            sum[0] = 0;
            parts[0] = 0;
            for (int set = 1; set < 1 << many; set++) {
                splitSet(set, many);
            }
            return many - parts[(1 << many) - 1];
        }

        private int gatherNets(Shadows shadows, Weights by) {
            int many = 0;
            for (int i = 0; i < shadows.market.stalls.many; i++) {
                int gain = shadows.gain(by, i);
                if (gain != 0 && many < MOST_STALLS) {
                    nets[many] = gain;
                    many++;
                }
            }
            return many;
        }

        /** Parts put one behind the other end where the running sum is 0, so the stall put last is tried. */
        private void splitSet(int set, int many) {
            int most = 0;
            for (int i = 0; i < many; i++) {
                if ((set >>> i & 1) == 1) {
                    int rest = set ^ 1 << i;
                    sum[set] = sum[rest] + nets[i];
                    most = Math.max(most, parts[rest]);
                }
            }
            parts[set] = sum[set] == 0 ? most + 1 : most;
        }
    }

    /** Images of what can change in a market, the latest last. */
    private static final class Images {
        private final int[] day = new int[MOST_IMAGES];
        private final int[] winter = new int[MOST_IMAGES];
        private final int[][] x = new int[MOST_IMAGES][ROOM];
        private final int[][] y = new int[MOST_IMAGES][ROOM];
        private final int[][] height = new int[MOST_IMAGES][ROOM];
        private final int[][] cold = new int[MOST_IMAGES][ROOM];
        private int many = 0;

        private int take(Market from) {
            if (many >= MOST_IMAGES) {
                return NONE;
            }
            day[many] = from.day;
            winter[many] = from.winter;
            System.arraycopy(from.stalls.x, 0, x[many], 0, ROOM);
            System.arraycopy(from.stalls.y, 0, y[many], 0, ROOM);
            System.arraycopy(from.stalls.height, 0, height[many], 0, ROOM);
            System.arraycopy(from.stalls.cold, 0, cold[many], 0, ROOM);
            many++;
            return many;
        }

        private int giveBack(Market to) {
            if (many <= 0) {
                return NONE;
            }
            many--;
            to.day = day[many];
            to.winter = winter[many];
            System.arraycopy(x[many], 0, to.stalls.x, 0, ROOM);
            System.arraycopy(y[many], 0, to.stalls.y, 0, ROOM);
            System.arraycopy(height[many], 0, to.stalls.height, 0, ROOM);
            System.arraycopy(cold[many], 0, to.stalls.cold, 0, ROOM);
            return many;
        }
    }

    /** The tape, and how it is read into a market up to its first fault. */
    private static final class Reader {
        private static final int FIELD = 0;
        private static final int STALL = 1;
        private static final int AWNING = 2;
        private static final int GROW = 3;
        private static final int SUN = 4;
        private static final int RATE = 5;
        private static final int FOLD = 6;
        private static final int LANTERN = 7;
        private static final int DUSK = 8;
        private static final int CLOUD = 9;
        private static final int WORDS = 10;
        private static final int STRANGE = 1;
        private static final int NO_NUMBER = 2;
        private static final int TOO_MANY = 3;
        private static final int TOO_LATE = 4;
        /** Above every limit of a number: more digits change nothing. */
        private static final int HUGE = 100000;

        private final byte[] tape = new byte[MOST_BYTES];
        private int bytes = 0;
        private int end = 0;
        private int at = 0;
        private int kind = 0;
        private int place = NONE;
        private int clauses = 0;
        private int suns = 0;
        private int rates = 0;

        private void append(int number) {
            for (int shift = 24; shift >= 0 && bytes < MOST_BYTES; shift -= 8) {
                tape[bytes] = (byte) (number >>> shift);
                bytes++;
            }
        }

        private int read(int many, Market into) {
            end = Math.min(many, bytes);
            bytes = 0;
            at = 0;
            kind = 0;
            place = NONE;
            clauses = 0;
            suns = 0;
            rates = 0;
            into.clear();
            skipBlanks();
            for (int i = 0; i <= MOST_CLAUSES && at < end && kind == 0; i++) {
                readClause(into);
                skipBlanks();
            }
            return kind;
        }

        private void blame(int what, int where) {
            if (kind == 0) {
                kind = what;
                place = where;
            }
        }

        private int here() {
            return at < end ? tape[at] : 0;
        }

        private void skipBlanks() {
            while (at < end && here() == ' ') {
                at++;
            }
        }

        private void readClause(Market into) {
            int start = at;
            int word = readWord();
            if (word == NONE) {
                blame(STRANGE, start);
            } else if (clauses >= MOST_CLAUSES || isFull(word, into)) {
                blame(TOO_MANY, start);
            } else if (word == FIELD && clauses > 0) {
                blame(TOO_LATE, start);
            } else {
                readNumbers(word, into);
                readEnd();
                clauses++;
            }
        }

        private int readWord() {
            int start = at;
            while (at < end && here() >= 'a' && here() <= 'z') {
                at++;
            }
            for (int i = 0; i < WORDS; i++) {
                if (isWord(nameOf(i), start)) {
                    return i;
                }
            }
            return NONE;
        }

        private static String nameOf(int word) {
            switch (word) {
                case FIELD:
                    return "field";
                case STALL:
                    return "stall";
                case AWNING:
                    return "awning";
                case GROW:
                    return "grow";
                case SUN:
                    return "sun";
                case RATE:
                    return "rate";
                case FOLD:
                    return "fold";
                case LANTERN:
                    return "lantern";
                case DUSK:
                    return "dusk";
                default:
                    return "cloud";
            }
        }

        private boolean isWord(String name, int start) {
            if (at - start != name.length()) {
                return false;
            }
            for (int i = 0; i < name.length(); i++) {
                if (tape[start + i] != name.charAt(i)) {
                    return false;
                }
            }
            return true;
        }

        private boolean isFull(int word, Market into) {
            switch (word) {
                case STALL:
                    return into.stalls.many >= MOST_STALLS;
                case SUN:
                    return suns >= MOST_CHANGES;
                case RATE:
                    return rates >= MOST_CHANGES;
                default:
                    return false;
            }
        }

        private void readNumbers(int word, Market into) {
            switch (word) {
                case FIELD:
                    into.width = readNumber(2, 9);
                    into.depth = readNumber(2, 9);
                    break;
                case STALL:
                    readStall(into);
                    break;
                case SUN:
                    readSun(into);
                    break;
                case RATE:
                    readRate(into);
                    break;
                case FOLD:
                    into.fold = readNumber(0, DAY);
                    break;
                case DUSK:
                    into.dusk = readNumber(0, DAY);
                    break;
                case CLOUD:
                    into.cloud = readNumber(0, 8);
                    break;
                default:
                    readOfStall(word, into.stalls);
                    break;
            }
        }

        private void readStall(Market into) {
            int column = readNumber(0, into.width - 1);
            skipBlanks();
            int second = at;
            int row = readNumber(0, into.depth - 1);
            if (into.stalls.whoIsAt(column, row) != NONE) {
                blame(NO_NUMBER, second);
            }
            int tallness = readNumber(0, 40);
            into.stalls.add(column, row, tallness);
        }

        private void readSun(Market into) {
            suns++;
            int from = readNumber(0, DAY - 1);
            int direction = readNumber(0, 2);
            direction += 3 * readNumber(0, 2);
            into.suns.tell(from, 10 * direction + readNumber(0, 9));
        }

        private void readRate(Market into) {
            rates++;
            int from = readNumber(0, DAY - 1);
            into.rates.tell(from, readNumber(0, 9));
        }

        private void readOfStall(int word, Stalls stalls) {
            int stall = readNumber(0, stalls.many - 1);
            if (stall >= stalls.many) {
                return;
            }
            if (word == AWNING) {
                stalls.awning[stall] = readNumber(0, MOST_AWNING);
            } else if (word == GROW) {
                stalls.grows[stall] = readNumber(0, 5);
                stalls.top[stall] = readNumber(0, MOST_HEIGHT);
            } else {
                stalls.lantern[stall] = 1;
            }
        }

        /** Behind a fault, which ends the reading, 0 stands for every number. */
        private int readNumber(int least, int most) {
            skipBlanks();
            int start = at;
            int number = 0;
            while (at < end && here() >= '0' && here() <= '9') {
                number = Math.min(HUGE, 10 * number + here() - '0');
                at++;
            }
            if (at == start) {
                blame(STRANGE, start);
            } else if (number < least || number > most) {
                blame(NO_NUMBER, start);
            }
            return kind == 0 ? number : 0;
        }

        private void readEnd() {
            skipBlanks();
            if (here() == ';') {
                at++;
            } else {
                blame(STRANGE, at);
            }
        }
    }
}
