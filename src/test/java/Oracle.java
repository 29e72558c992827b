import java.math.BigInteger;
import java.util.ArrayList;
import java.util.Arrays;
import java.util.HashSet;
import java.util.List;
import java.util.NoSuchElementException;
import java.util.Set;

/**
 * The document told once more in the plainest way, for the tests to compare with: shadows are walked cell by cell,
 * days are walked minute by minute, and every question copies the whole market.
 */
public final class Oracle {
    static final int DAY = 1440;

    /** A stall, or something like one. */
    static final class Stand implements Cloneable {
        int x;
        int y;
        int height;
        int awning;
        int grows;
        int top;
        boolean lantern;
        int cold = -1;

        Stand(int x, int y, int height) {
            this.x = x;
            this.y = y;
            this.height = height;
        }

        Stand copy() {
            Stand other = new Stand(x, y, height);
            other.awning = awning;
            other.grows = grows;
            other.top = top;
            other.lantern = lantern;
            other.cold = cold;
            return other;
        }
    }

    /** A market with its state. */
    static final class Market {
        int width = 6;
        int depth = 4;
        int fold = DAY;
        int dusk = DAY;
        int cloud = 0;
        int day = 0;
        int winter = 0;
        /** By minutes: the sun told for just that minute, or null. */
        int[][] sun = new int[DAY][];
        int[] rate = new int[DAY];
        List<Stand> stands = new ArrayList<>();

        Market() {
            Arrays.fill(rate, -1);
        }

        Market copy() {
            Market other = new Market();
            other.width = width;
            other.depth = depth;
            other.fold = fold;
            other.dusk = dusk;
            other.cloud = cloud;
            other.day = day;
            other.winter = winter;
            other.sun = sun;
            other.rate = rate;
            for (Stand s : stands) {
                other.stands.add(s.copy());
            }
            return other;
        }

        int[] sunAt(int minute) {
            for (int m = minute; m >= 0; m--) {
                if (sun[m] != null) {
                    return sun[m];
                }
            }
            return null;
        }

        int rateAt(int minute) {
            for (int m = minute; m >= 0; m--) {
                if (rate[m] >= 0) {
                    return rate[m];
                }
            }
            return 1;
        }

        int length(int i, int[] s) {
            if (s == null || s[0] == 1 && s[1] == 1) {
                return 0;
            }
            return stands.get(i).height * s[2] * (winter == 1 ? 2 : 1) / 10;
        }

        Stand at(int x, int y) {
            for (Stand s : stands) {
                if (s.x == x && s.y == y) {
                    return s;
                }
            }
            return null;
        }

        /** Who is in shade of i by a sun. */
        boolean[] thrown(int i, int[] s) {
            boolean[] in = new boolean[stands.size()];
            int length = length(i, s);
            Stand one = stands.get(i);
            boolean taller = false;
            for (int step = 1; step <= length; step++) {
                int x = one.x + step * (s[0] - 1);
                int y = one.y + step * (s[1] - 1);
                if (x < 0 || y < 0 || x >= width || y >= depth) {
                    break;
                }
                Stand there = at(x, y);
                if (there == null) {
                    continue;
                }
                boolean covered = false;
                for (Stand k : stands) {
                    for (int n = 1; n <= k.awning; n++) {
                        covered |= k != one && k.x == x && k.y + n == y;
                    }
                }
                if (!covered && !taller) {
                    in[stands.indexOf(there)] = true;
                }
                taller |= there.height > one.height;
            }
            return in;
        }

        boolean[][] shade(int[] s) {
            boolean[][] all = new boolean[stands.size()][];
            for (int i = 0; i < all.length; i++) {
                all[i] = thrown(i, s);
            }
            return all;
        }

        boolean[][] shadeAt(int minute) {
            return minute >= fold ? new boolean[stands.size()][stands.size()] : shade(sunAt(minute));
        }

        /** By minutes: the shade, made once for each stretch of one sun. */
        boolean[][][] dayShade() {
            boolean[][][] all = new boolean[DAY][][];
            boolean[][] none = new boolean[stands.size()][stands.size()];
            boolean[][] now = none;
            for (int m = 0; m < DAY; m++) {
                if (sun[m] != null) {
                    now = shade(sun[m]);
                }
                all[m] = m >= fold ? none : now;
            }
            return all;
        }

        /** Who owes whom from a minute up to another, hours with a cloud left out. */
        int[][] owes(int from, int to, int clouds, boolean lanterns) {
            int n = stands.size();
            int[][] sum = new int[n][n];
            boolean[][][] shade = dayShade();
            int rateNow = 1;
            for (int m = 0; m < to; m++) {
                rateNow = rate[m] >= 0 ? rate[m] : rateNow;
                if (m < from || (clouds >> m / 60 & 1) == 1) {
                    continue;
                }
                for (int i = 0; i < n; i++) {
                    for (int j = 0; j < n; j++) {
                        if (shade[m][i][j]) {
                            sum[i][j] += lanterns && m >= dusk && stands.get(i).lantern ? 2 * rateNow : rateNow;
                        }
                    }
                }
            }
            return sum;
        }

        int due(int from, int to, int clouds) {
            int sum = 0;
            for (int[] row : owes(from, to, clouds, true)) {
                for (int o : row) {
                    sum += o;
                }
            }
            return sum;
        }

        int due() {
            return due(0, DAY, 0);
        }

        int net(int k, int to) {
            int[][] o = owes(0, to, 0, true);
            int sum = 0;
            for (int i = 0; i < stands.size(); i++) {
                sum += o[i][k] - o[k][i];
            }
            return sum;
        }

        int chill(int k) {
            int sum = 0;
            for (boolean[][] shade : dayShade()) {
                boolean any = false;
                for (boolean[] row : shade) {
                    any |= row[k];
                }
                sum += any ? 1 : 0;
            }
            return sum;
        }

        int led(int k, int by) {
            int sum = 0;
            for (boolean[][] shade : dayShade()) {
                int many = 0;
                for (boolean[] row : shade) {
                    many += row[k] ? 1 : 0;
                }
                sum += many == 1 && shade[by][k] ? 1 : 0;
            }
            return sum;
        }

        boolean throwsNone(int k) {
            for (boolean[][] shade : dayShade()) {
                for (boolean in : shade[k]) {
                    if (in) {
                        return false;
                    }
                }
            }
            return true;
        }

        void grow() {
            for (Stand s : stands) {
                for (int n = 0; n < s.grows && s.height < s.top; n++) {
                    s.height++;
                }
            }
        }

        int wish(int k) {
            Market m = copy();
            Stand s = m.stands.get(k);
            int to = s.top == 0 ? s.height : s.top;
            int best = -1;
            int most = Integer.MIN_VALUE;
            for (int h = 0; h <= to; h++) {
                s.height = h;
                int now = m.net(k, DAY) + h;
                if (now > most) {
                    most = now;
                    best = h;
                }
            }
            return best;
        }

        List<Integer> heights() {
            List<Integer> all = new ArrayList<>();
            for (Stand s : stands) {
                all.add(s.height);
            }
            return all;
        }

        int[] exchange() {
            int least = due();
            int[] best = null;
            for (int a = 0; a < stands.size(); a++) {
                for (int b = a + 1; b < stands.size(); b++) {
                    int now = exchanged(a, b).due();
                    if (now < least) {
                        least = now;
                        best = new int[] {a, b};
                    }
                }
            }
            return best;
        }

        Market exchanged(int a, int b) {
            Market m = copy();
            m.stands.get(a).x = stands.get(b).x;
            m.stands.get(a).y = stands.get(b).y;
            m.stands.get(b).x = stands.get(a).x;
            m.stands.get(b).y = stands.get(a).y;
            return m;
        }

        int clouds(int seed) {
            long now = seed & 0xFFFFFFFFL;
            int bits = 0;
            for (int h = 0; h < 24; h++) {
                now = (now * 1103515245L + 12345L) % (1L << 32);
                long draw = now / 65536 % 8;
                bits |= draw < cloud ? 1 << h : 0;
            }
            return bits;
        }
    }

    /** A fault of a text. */
    static final class Fault extends Exception {
        private static final long serialVersionUID = 1;
        final int kind;
        final int place;

        Fault(int kind, int place) {
            this.kind = kind;
            this.place = place;
        }
    }

    /** The text cut into tokens, then taken one by one. */
    static final class Tokens {
        final List<String> tokens = new ArrayList<>();
        final List<Integer> places = new ArrayList<>();
        int next = 0;

        Tokens(String text) {
            int i = 0;
            while (i < text.length()) {
                int j = i;
                while (j < text.length() && Character.toString(text.charAt(j)).matches("[0-9]")) {
                    j++;
                }
                if (j == i) {
                    while (j < text.length() && Character.toString(text.charAt(j)).matches("[a-z]")) {
                        j++;
                    }
                }
                j = j == i ? i + 1 : j;
                if (text.charAt(i) != ' ') {
                    tokens.add(text.substring(i, j));
                    places.add(i);
                }
                i = j;
            }
            tokens.add("");
            places.add(text.length());
        }

        String peek() {
            return tokens.get(next);
        }

        int place() {
            return places.get(next);
        }

        int number(int least, int most) throws Fault {
            if (!peek().matches("[0-9]+")) {
                throw new Fault(1, place());
            }
            BigInteger n = new BigInteger(peek());
            if (n.compareTo(BigInteger.valueOf(least)) < 0 || n.compareTo(BigInteger.valueOf(most)) > 0) {
                throw new Fault(2, place());
            }
            next++;
            return n.intValue();
        }
    }

    static Market parse(String text) throws Fault {
        Market m = new Market();
        Tokens t = new Tokens(text);
        int clauses = 0;
        int suns = 0;
        int rates = 0;
        while (!t.peek().isEmpty()) {
            String word = t.peek();
            int place = t.place();
            if (!List.of("field", "stall", "awning", "grow", "sun", "rate", "fold", "lantern", "dusk", "cloud")
                    .contains(word)) {
                throw new Fault(1, place);
            }
            clauses++;
            suns += word.equals("sun") ? 1 : 0;
            rates += word.equals("rate") ? 1 : 0;
            if (clauses > 60 || suns > 20 || rates > 20 || word.equals("stall") && m.stands.size() == 8) {
                throw new Fault(3, place);
            }
            if (word.equals("field") && clauses > 1) {
                throw new Fault(4, place);
            }
            t.next++;
            clause(word, t, m);
            if (!t.peek().equals(";")) {
                throw new Fault(1, t.place());
            }
            t.next++;
        }
        return m;
    }

    static void clause(String word, Tokens t, Market m) throws Fault {
        switch (word) {
            case "field" -> {
                m.width = t.number(2, 9);
                m.depth = t.number(2, 9);
            }
            case "stall" -> {
                int x = t.number(0, m.width - 1);
                int place = t.place();
                int y = t.number(0, m.depth - 1);
                if (m.at(x, y) != null) {
                    throw new Fault(2, place);
                }
                m.stands.add(new Stand(x, y, t.number(0, 40)));
            }
            case "awning" -> m.stands.get(t.number(0, m.stands.size() - 1)).awning = t.number(0, 3);
            case "grow" -> {
                Stand s = m.stands.get(t.number(0, m.stands.size() - 1));
                s.grows = t.number(0, 5);
                s.top = t.number(0, 60);
            }
            case "sun" -> m.sun[t.number(0, 1439)] = new int[] {t.number(0, 2), t.number(0, 2), t.number(0, 9)};
            case "rate" -> m.rate[t.number(0, 1439)] = t.number(0, 9);
            case "fold" -> m.fold = t.number(0, 1440);
            case "lantern" -> m.stands.get(t.number(0, m.stands.size() - 1)).lantern = true;
            case "dusk" -> m.dusk = t.number(0, 1440);
            default -> m.cloud = t.number(0, 8);
        }
    }

    Market now = new Market();
    private final StringBuilder tape = new StringBuilder();
    private final List<Market> images = new ArrayList<>();
    private int fault = -1;
    private int rounds = 0;
    private final int[] refused = new int[2];

    private void need(boolean good) {
        if (!good) {
            refused[1]++;
            throw new IllegalArgumentException();
        }
    }

    private void within(int number, int least, int most) {
        need(number >= least && number <= most);
    }

    private void there(int... stalls) {
        for (int s : stalls) {
            if (s < 0 || s >= now.stands.size()) {
                refused[0]++;
                throw new NoSuchElementException();
            }
        }
    }

    public int feed(int a, int b, int c, int d, int e) {
        if (tape.length() + 20 > 600) {
            return -1;
        }
        for (int n : new int[] {a, b, c, d, e}) {
            tape.append((char) (n >> 24 & 255)).append((char) (n >> 16 & 255));
            tape.append((char) (n >> 8 & 255)).append((char) (n & 255));
        }
        return tape.length();
    }

    public int market(int n) {
        within(n, 0, tape.length());
        String text = tape.substring(0, n);
        tape.setLength(0);
        try {
            now = parse(text);
        } catch (Fault f) {
            fault = f.place;
            return f.kind - 10;
        }
        fault = -1;
        rounds = 0;
        images.clear();
        return now.stands.size();
    }

    public int fault() {
        return fault;
    }

    public int told(int what) {
        within(what, 0, 7);
        return new int[] {now.width, now.depth, now.stands.size(), now.day, now.winter, now.fold, now.dusk, now.cloud}
                [what];
    }

    public int stall(int stall, int what) {
        there(stall);
        within(what, 0, 6);
        Stand s = now.stands.get(stall);
        return new int[] {s.x, s.y, s.height, s.awning, s.grows, s.top, s.lantern ? 1 : 0}[what];
    }

    public int length(int stall, int minute) {
        there(stall);
        within(minute, 0, 1439);
        return minute >= now.fold ? 0 : now.length(stall, now.sunAt(minute));
    }

    public boolean shades(int stall, int other, int minute) {
        there(stall, other);
        need(stall != other);
        within(minute, 0, 1439);
        return now.shadeAt(minute)[stall][other];
    }

    public int under(int stall, int minute) {
        there(stall);
        within(minute, 0, 1439);
        int bits = 0;
        boolean[][] shade = now.shadeAt(minute);
        for (int i = 0; i < shade.length; i++) {
            bits |= shade[i][stall] ? 1 << i : 0;
        }
        return bits;
    }

    public int minutes(int stall, int other) {
        there(stall, other);
        need(stall != other);
        int sum = 0;
        for (boolean[][] shade : now.dayShade()) {
            sum += shade[stall][other] ? 1 : 0;
        }
        return sum;
    }

    public int chill(int stall) {
        there(stall);
        return now.chill(stall);
    }

    public int owes(int stall, int other, int minute) {
        there(stall, other);
        need(stall != other);
        within(minute, 0, DAY);
        return now.owes(0, minute, 0, true)[stall][other];
    }

    public int net(int stall, int minute) {
        there(stall);
        within(minute, 0, DAY);
        return now.net(stall, minute);
    }

    public int payments(int minute) {
        within(minute, 0, DAY);
        List<Integer> nets = new ArrayList<>();
        for (int i = 0; i < now.stands.size(); i++) {
            int net = now.net(i, minute);
            if (net != 0) {
                nets.add(net);
            }
        }
        return nets.size() - mostSets(nets, new ArrayList<>());
    }

    /** Puts each net into one of the sets there are, or a new one, in all ways. */
    private static int mostSets(List<Integer> nets, List<Integer> sums) {
        if (nets.isEmpty()) {
            for (int s : sums) {
                if (s != 0) {
                    return -1;
                }
            }
            return sums.size();
        }
        List<Integer> rest = nets.subList(1, nets.size());
        int best = -1;
        for (int i = 0; i <= sums.size(); i++) {
            List<Integer> more = new ArrayList<>(sums);
            if (i == sums.size()) {
                more.add(nets.get(0));
            } else {
                more.set(i, more.get(i) + nets.get(0));
            }
            best = Math.max(best, mostSets(rest, more));
        }
        return best;
    }

    public int due() {
        return now.due();
    }

    public int first(int minute) {
        within(minute, 0, 1439);
        boolean[][][] shade = now.dayShade();
        for (int m = minute; m < DAY; m++) {
            for (boolean[] row : shade[m]) {
                for (boolean in : row) {
                    if (in) {
                        return m;
                    }
                }
            }
        }
        return -1;
    }

    public int winter(int is) {
        within(is, 0, 1);
        int was = now.winter;
        now.winter = is;
        return was;
    }

    public int move(int stall, int x, int y) {
        there(stall);
        within(x, 0, now.width - 1);
        within(y, 0, now.depth - 1);
        if (now.at(x, y) != null) {
            return 0;
        }
        now.stands.get(stall).x = x;
        now.stands.get(stall).y = y;
        return 1;
    }

    public int tall(int stall, int height) {
        there(stall);
        within(height, 0, 60);
        int was = now.stands.get(stall).height;
        now.stands.get(stall).height = height;
        return was;
    }

    public int set(int stalls, int what) {
        within(what, 0, 1);
        need(stalls != 0 && (stalls >>> now.stands.size()) == 0);
        List<Integer> which = new ArrayList<>();
        for (int i = 0; i < 8; i++) {
            if ((stalls >> i & 1) == 1) {
                which.add(i);
            }
        }
        within(which.size(), 1, 2);
        Market m = now.copy();
        for (int i : which) {
            m.stands.get(i).x = -100 - i;
        }
        int[] best = {Integer.MAX_VALUE, -1};
        setFrom(m, which, 0, best);
        return best[what];
    }

    private static void setFrom(Market m, List<Integer> which, int cells, int[] best) {
        if (which.isEmpty()) {
            int due = m.due();
            if (due < best[0]) {
                best[0] = due;
                best[1] = cells;
            }
            return;
        }
        Stand s = m.stands.get(which.get(0));
        for (int y = 0; y < m.depth; y++) {
            for (int x = 0; x < m.width; x++) {
                if (m.at(x, y) == null) {
                    int column = s.x;
                    int row = s.y;
                    s.x = x;
                    s.y = y;
                    setFrom(m, which.subList(1, which.size()), 100 * cells + x + 10 * y, best);
                    s.x = column;
                    s.y = row;
                }
            }
        }
    }

    public int exchange() {
        int[] best = now.exchange();
        return best == null ? -1 : 10 * best[0] + best[1];
    }

    public int pole(int height, int what) {
        within(height, 0, 60);
        within(what, 0, 1);
        int least = Integer.MAX_VALUE;
        int cell = -1;
        for (int y = 0; y < now.depth && now.stands.size() < 8; y++) {
            for (int x = 0; x < now.width; x++) {
                if (now.at(x, y) == null) {
                    Market m = now.copy();
                    m.stands.add(new Stand(x, y, height));
                    int due = m.due();
                    if (due < least) {
                        least = due;
                        cell = x + 10 * y;
                    }
                }
            }
        }
        return cell == -1 ? -1 : what == 0 ? cell : least;
    }

    public int wish(int stall) {
        there(stall);
        return now.wish(stall);
    }

    public int play() {
        Set<List<Integer>> seen = new HashSet<>();
        seen.add(now.heights());
        for (rounds = 1; ; rounds++) {
            List<Integer> before = now.heights();
            for (int i = 0; i < now.stands.size(); i++) {
                now.stands.get(i).height = now.wish(i);
            }
            if (now.heights().equals(before)) {
                return 1;
            }
            if (!seen.add(now.heights()) || rounds == 20) {
                return 0;
            }
        }
    }

    public int rounds() {
        return rounds;
    }

    public int cold(int stall, int minutes) {
        there(stall);
        within(minutes, -1, DAY);
        int was = now.stands.get(stall).cold;
        now.stands.get(stall).cold = minutes;
        return was;
    }

    public int what(int what) {
        within(what, 0, 1);
        int many = 0;
        int first = -1;
        int[] chill = new int[now.stands.size()];
        for (int i = 0; i < chill.length; i++) {
            chill[i] = now.chill(i);
        }
        for (int y = 0; y < now.depth; y++) {
            for (int x = 0; x < now.width; x++) {
                for (int h = 1; h <= 60 && now.at(x, y) == null; h++) {
                    Market m = now.copy();
                    m.stands.add(new Stand(x, y, h));
                    boolean good = true;
                    for (int i = 0; i < chill.length && good; i++) {
                        int cold = now.stands.get(i).cold;
                        good = cold == -1 || m.chill(i) - chill[i] == cold;
                    }
                    many += good ? 1 : 0;
                    first = good && first == -1 ? 100 * h + x + 10 * y : first;
                }
            }
        }
        return what == 0 ? many : first;
    }

    public int days(int n) {
        within(n, 1, 99);
        for (int i = 0; i < n && now.day < 999; i++) {
            now.day++;
            now.grow();
        }
        return now.day;
    }

    public int when(int much) {
        within(much, 0, 99999);
        Market m = now.copy();
        for (int d = 0; d <= 99; d++) {
            if (m.due() > much) {
                return d;
            }
            m.grow();
        }
        return -1;
    }

    public int clouds(int seed, int what) {
        within(what, 0, 1);
        int bits = now.clouds(seed);
        return what == 1 ? bits : now.due(0, DAY, bits);
    }

    public int span(int seed, int many, int what) {
        within(what, 0, 1);
        within(many, 1, 60);
        int least = Integer.MAX_VALUE;
        int most = 0;
        for (int i = 0; i < many; i++) {
            int due = now.due(0, DAY, now.clouds(seed + i));
            least = Math.min(least, due);
            most = Math.max(most, due);
        }
        return what == 0 ? least : most;
    }

    public int led(int stall, int by) {
        there(stall, by);
        need(stall != by);
        return now.led(stall, by);
    }

    public int whose(int stall) {
        there(stall);
        int best = -1;
        int most = 0;
        for (int i = 0; i < now.stands.size(); i++) {
            int led = now.led(stall, i);
            if (led > most) {
                most = led;
                best = i;
            }
        }
        return best;
    }

    public int harmless(int stall) {
        there(stall);
        Market m = now.copy();
        for (int h = 60; h >= 0; h--) {
            m.stands.get(stall).height = h;
            if (m.throwsNone(stall)) {
                return h;
            }
        }
        return -1;
    }

    public int folded(int much) {
        within(much, 0, 99999);
        Market m = now.copy();
        while (m.due() > much) {
            m.fold--;
        }
        return m.fold;
    }

    public int awned(int stall, int what) {
        there(stall);
        within(what, 0, 1);
        Market m = now.copy();
        int[] best = {-1, Integer.MIN_VALUE};
        for (int a = 0; a <= 3; a++) {
            m.stands.get(stall).awning = a;
            int gain = m.net(stall, DAY);
            if (gain > best[1]) {
                best[0] = a;
                best[1] = gain;
            }
        }
        return best[what];
    }

    public int lights() {
        int sum = 0;
        int[][] with = now.owes(0, DAY, 0, true);
        int[][] without = now.owes(0, DAY, 0, false);
        for (int i = 0; i < with.length; i++) {
            for (int j = 0; j < with.length; j++) {
                sum += with[i][j] - without[i][j];
            }
        }
        return sum;
    }

    public int hour(int what) {
        within(what, 0, 1);
        int[] best = {-1, -1};
        for (int h = 0; h < 24; h++) {
            int due = now.due(60 * h, 60 * h + 60, 0);
            if (due > best[1]) {
                best[0] = h;
                best[1] = due;
            }
        }
        return best[what];
    }

    public int improved(int what) {
        within(what, 0, 1);
        Market m = now.copy();
        int times = 0;
        for (int[] next = m.exchange(); next != null; next = m.exchange()) {
            m = m.exchanged(next[0], next[1]);
            times++;
        }
        return what == 0 ? times : m.due();
    }

    public int out(int stall) {
        there(stall);
        Market m = now.copy();
        m.stands.remove(stall);
        return m.due();
    }

    public int suns() {
        int most = 0;
        int best = -1;
        for (int m = 0; m < DAY; m++) {
            if (now.sun[m] == null) {
                continue;
            }
            int end = m + 1;
            while (end < DAY && now.sun[end] == null) {
                end++;
            }
            int due = now.due(m, end, 0);
            if (due > most) {
                most = due;
                best = m;
            }
        }
        return best;
    }

    public int image() {
        if (images.size() == 3) {
            return -1;
        }
        images.add(now.copy());
        return images.size();
    }

    public int restore() {
        if (images.isEmpty()) {
            return -1;
        }
        now = images.remove(images.size() - 1);
        return images.size();
    }

    public int status(int what) {
        return what == 0 || what == 1 ? refused[what] : -1;
    }

    public int count(int what) {
        return what == 0 ? images.size() : what == 1 ? tape.length() : -1;
    }
}
