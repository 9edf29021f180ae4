import java.math.BigInteger;
import java.util.ArrayList;
import java.util.List;
import java.util.TreeSet;

/**
 * The document's words once more, as slowly and plainly as they can be written: sets of places, states kept
 * whole for each act, orders and outcomes gone through one by one. OracleTest holds RangePapers against it.
 */
final class Oracle {
    static final int UNKNOWN = -1, BAD = -2, LATE = -3, FULL = -4, NONE = -9;

    record Range(int start, int length) {
        List<Integer> places() {
            List<Integer> all = new ArrayList<>();
            for (int place = 0; place < 32; place++) {
                if (has(place)) {
                    all.add(place);
                }
            }
            return all;
        }

        boolean has(int place) {
            int size = 32;
            for (int i = 0; i < length; i++) {
                size /= 2;
            }
            return place >= start && place < start + size;
        }

        boolean within(Range other) {
            for (int place = 0; place < 32; place++) {
                if (has(place) && !other.has(place)) {
                    return false;
                }
            }
            return true;
        }

        boolean meets(Range other) {
            for (int place = 0; place < 32; place++) {
                if (has(place) && other.has(place)) {
                    return true;
                }
            }
            return false;
        }
    }

    record Paper(int parent, Range range, int lasts) { }

    record Grant(int paper, int origin, Range range, int most) { }

    record Route(Range range, int origin) { }

    record Seen(Range range, int origin, int s) { }

    /** All that ACTS change. */
    static final class World {
        List<Grant> grants = new ArrayList<>();
        List<Route> routes = new ArrayList<>();
        TreeSet<Integer> revoked = new TreeSet<>();
        TreeSet<Integer> aside = new TreeSet<>();
        int day;

        World copy() {
            World w = new World();
            w.grants.addAll(grants);
            w.routes.addAll(routes);
            w.revoked.addAll(revoked);
            w.aside.addAll(aside);
            w.day = day;
            return w;
        }
    }

    private List<Paper> papers = new ArrayList<>(List.of(new Paper(NONE, new Range(0, 0), NONE)));
    private World world = new World();
    private final List<World> acts = new ArrayList<>();
    private final World[] slots = new World[2];
    private final List<Seen> seen = new ArrayList<>();
    private String text = "";
    private long seed;

    // ---- what the words mean

    static boolean isRange(int start, int length) {
        if (length < 0 || length > 5 || start < 0 || start > 31) {
            return false;
        }
        int size = 32;
        for (int i = 0; i < length; i++) {
            size /= 2;
        }
        return start % size == 0;
    }

    static boolean isOrigin(int origin) {
        return 0 <= origin && origin <= 5;
    }

    boolean stands(World w, int p) {
        if (p == 0) {
            return true;
        }
        Paper paper = papers.get(p);
        return !w.revoked.contains(p) && w.day <= paper.lasts && stands(w, paper.parent)
                && paper.range.within(papers.get(paper.parent).range);
    }

    boolean counts(World w, Grant g) {
        if (g.paper == 9) {
            return true;
        }
        return stands(w, g.paper) && g.range.within(papers.get(g.paper).range) && !w.aside.contains(g.origin);
    }

    int stateIn(World w, Range range, int origin) {
        for (Grant g : w.grants) {
            if (counts(w, g) && range.within(g.range) && g.origin == origin && g.most >= range.length) {
                return 2;
            }
        }
        for (Grant g : w.grants) {
            if (counts(w, g) && range.within(g.range)) {
                return 0;
            }
        }
        return 1;
    }

    int stateIn(World w, Route r) {
        return stateIn(w, r.range, r.origin);
    }

    int rightCount(World w) {
        int n = 0;
        for (Route r : w.routes) {
            n += stateIn(w, r) == 2 ? 1 : 0;
        }
        return n;
    }

    boolean letIn(World w, Route r, int law) {
        int s = stateIn(w, r);
        if (law == 0) {
            return true;
        }
        if (law == 1) {
            return s != 0;
        }
        if (law == 2 || s == 2) {
            return s == 2;
        }
        if (s == 0) {
            return false;
        }
        for (Route other : w.routes) {
            if (stateIn(w, other) == 2 && other.range.meets(r.range)) {
                return false;
            }
        }
        return true;
    }

    int goesIn(World w, int place, int law) {
        for (int length = 5; length >= 0; length--) {
            for (int i = 0; i < w.routes.size(); i++) {
                Route r = w.routes.get(i);
                if (r.range.length == length && r.range.has(place) && letIn(w, r, law)) {
                    return i;
                }
            }
        }
        return NONE;
    }

    // ---- the tree

    int write(int letter) {
        if (letter < 0 || letter > 255) {
            return BAD;
        }
        if (text.length() == 99) {
            return FULL;
        }
        text += (char) letter;
        return text.length();
    }

    int wipe() {
        int n = text.length();
        text = "";
        return n;
    }

    /** Cuts THE TEXT into whole parts and one that is begun; null if there is a letter that begins none. */
    private static List<String> parts(String letters) {
        List<String> all = new ArrayList<>();
        int at = 1;
        while (at < letters.length()) {
            int size = letters.charAt(at) == 'p' ? 6 : letters.charAt(at) == 'g' ? 7 : letters.charAt(at) == 'r' ? 5 : 0;
            if (size == 0) {
                return null;
            }
            all.add(letters.substring(at, Math.min(at + size, letters.length())));
            at += size;
        }
        return all;
    }

    private static int number(List<String> parts, char kind) {
        int n = 0;
        for (String part : parts) {
            n += part.charAt(0) == kind ? 1 : 0;
        }
        return n;
    }

    private static Range rangeAt(String part, int at) {
        return new Range(Integer.parseInt(part.substring(at, at + 2)), part.charAt(at + 2) - '0');
    }

    private static boolean hasRangeAt(String part, int at) {
        Range r = rangeAt(part, at);
        return isRange(r.start, r.length);
    }

    private static boolean isFigures(String part, char kind, int many) {
        boolean all = part.length() == 1 + many && part.charAt(0) == kind;
        for (int i = 1; i < part.length(); i++) {
            all = all && part.charAt(i) >= '0' && part.charAt(i) <= '9';
        }
        return all;
    }

    /** Whether a part is a whole one, the ones ahead being whole. */
    private static boolean isPart(String part, List<String> ahead) {
        int told = 1 + number(ahead, 'p');
        if (isFigures(part, 'p', 5)) {
            return number(ahead, 'p') < 5 && part.charAt(1) - '0' < told && hasRangeAt(part, 2);
        }
        if (isFigures(part, 'g', 6)) {
            int paper = part.charAt(1) - '0';
            int most = part.charAt(6) - '0';
            return number(ahead, 'g') < 8 && (paper < told || paper == 9) && isOrigin(part.charAt(2) - '0')
                    && hasRangeAt(part, 3) && most >= rangeAt(part, 3).length && most <= 5;
        }
        return isFigures(part, 'r', 4) && number(ahead, 'r') < 6 && hasRangeAt(part, 1)
                && isOrigin(part.charAt(4) - '0');
    }

    private static boolean canBecomePart(String begun, List<String> ahead) {
        int size = begun.charAt(0) == 'p' ? 6 : begun.charAt(0) == 'g' ? 7 : 5;
        if (begun.length() == size) {
            return isPart(begun, ahead);
        }
        for (char figure = '0'; figure <= '9'; figure++) {
            if (canBecomePart(begun + figure, ahead)) {
                return true;
            }
        }
        return false;
    }

    private static boolean canBecomeTree(String letters) {
        if (!letters.startsWith("P")) {
            return letters.isEmpty();
        }
        List<String> parts = parts(letters);
        if (parts == null) {
            return false;
        }
        if (parts.isEmpty()) {
            return true;
        }
        // The parts ahead of the last one have been looked at with shorter beginnings.
        return canBecomePart(parts.get(parts.size() - 1), parts.subList(0, parts.size() - 1));
    }

    private static boolean isTree(String letters) {
        if (!letters.startsWith("P")) {
            return false;
        }
        List<String> parts = parts(letters);
        return parts != null
                && (parts.isEmpty() || isPart(parts.get(parts.size() - 1), parts.subList(0, parts.size() - 1)));
    }

    int fault() {
        for (int n = 1; n <= text.length(); n++) {
            if (!canBecomeTree(text.substring(0, n))) {
                return n - 1;
            }
        }
        return isTree(text) ? NONE : text.length();
    }

    int tree() {
        if (fault() != NONE) {
            return LATE;
        }
        papers = new ArrayList<>(papers.subList(0, 1));
        world = new World();
        for (String part : parts(text)) {
            char kind = part.charAt(0);
            if (kind == 'p') {
                papers.add(new Paper(part.charAt(1) - '0', rangeAt(part, 2), part.charAt(5) - '0'));
            } else if (kind == 'g') {
                world.grants.add(new Grant(part.charAt(1) - '0', part.charAt(2) - '0', rangeAt(part, 3),
                        part.charAt(6) - '0'));
            } else {
                world.routes.add(new Route(rangeAt(part, 1), part.charAt(4) - '0'));
            }
        }
        acts.clear();
        slots[0] = null;
        slots[1] = null;
        return papers.size();
    }

    int about(int what) {
        int bits = 0;
        switch (what) {
            case 0: return papers.size();
            case 1: return world.grants.size();
            case 2: return world.routes.size();
            case 3: return world.day;
            case 4:
                for (int p : world.revoked) {
                    bits += 1 << p;
                }
                return bits;
            case 5:
                for (int p = 0; p < papers.size(); p++) {
                    bits += stands(world, p) ? 1 << p : 0;
                }
                return bits;
            case 6:
                for (int o : world.aside) {
                    bits += 1 << o;
                }
                return bits;
            case 7:
            case 8:
                for (int r = 0; r < world.routes.size(); r++) {
                    bits += stateIn(world, world.routes.get(r)) == (what == 7 ? 2 : 0) ? 1 << r : 0;
                }
                return bits;
            case 9:
                TreeSet<Integer> had = new TreeSet<>();
                for (Grant g : world.grants) {
                    if (counts(world, g)) {
                        had.addAll(g.range.places());
                    }
                }
                return 32 - had.size();
            case 10: return acts.size();
            case 11: return seen.size();
            case 12: return text.length();
            default: return BAD;
        }
    }

    int paper(int paper, int what) {
        if (paper < 0 || paper >= papers.size()) {
            return UNKNOWN;
        }
        Paper p = papers.get(paper);
        int[] all = {p.parent, p.range.start, p.range.length, p.lasts, stands(world, paper) ? 1 : 0};
        return what < 0 || what > 4 ? BAD : all[what];
    }

    int grant(int grant, int what) {
        if (grant < 0 || grant >= world.grants.size()) {
            return UNKNOWN;
        }
        Grant g = world.grants.get(grant);
        int[] all = {g.paper, g.origin, g.range.start, g.range.length, g.most, counts(world, g) ? 1 : 0};
        return what < 0 || what > 5 ? BAD : all[what];
    }

    int route(int route, int what) {
        if (route < 0 || route >= world.routes.size()) {
            return UNKNOWN;
        }
        Route r = world.routes.get(route);
        int[] all = {r.range.start, r.range.length, r.origin, stateIn(world, r), maker(r)};
        return what < 0 || what > 4 ? BAD : all[what];
    }

    private int maker(Route r) {
        for (int length = 5; length >= 0; length--) {
            for (int p = 0; p < papers.size(); p++) {
                if (papers.get(p).range.length == length && stands(world, p) && r.range.within(papers.get(p).range)) {
                    return p;
                }
            }
        }
        throw new IllegalStateException("no maker");
    }

    // ---- acts

    private void act() {
        if (acts.size() == 14) {
            acts.remove(0);
        }
        acts.add(world);
        world = world.copy();
    }

    int announce(int start, int length, int origin) {
        if (!isRange(start, length)) {
            return BAD;
        }
        if (!isOrigin(origin)) {
            return UNKNOWN;
        }
        if (world.routes.size() == 6) {
            return FULL;
        }
        act();
        world.routes.add(new Route(new Range(start, length), origin));
        return world.routes.size() - 1;
    }

    int withdraw(int route) {
        if (route < 0 || route >= world.routes.size()) {
            return UNKNOWN;
        }
        act();
        world.routes.remove(route);
        return world.routes.size();
    }

    int allow(int paper, int origin, int start, int length, int most) {
        if (paper != 9 && (paper < 0 || paper >= papers.size()) || !isOrigin(origin)) {
            return UNKNOWN;
        }
        if (!isRange(start, length) || most < length || most > 5) {
            return BAD;
        }
        if (world.grants.size() == 8) {
            return FULL;
        }
        act();
        world.grants.add(new Grant(paper, origin, new Range(start, length), most));
        return world.grants.size() - 1;
    }

    int tear(int grant) {
        if (grant < 0 || grant >= world.grants.size()) {
            return UNKNOWN;
        }
        act();
        world.grants.remove(grant);
        return world.grants.size();
    }

    private static int turn(TreeSet<Integer> set, int x) {
        if (set.remove(x)) {
            return 0;
        }
        set.add(x);
        return 1;
    }

    int revoke(int paper) {
        if (paper < 1 || paper >= papers.size()) {
            return UNKNOWN;
        }
        act();
        return turn(world.revoked, paper);
    }

    int night() {
        if (world.day == 9) {
            return LATE;
        }
        act();
        return ++world.day;
    }

    int setAside(int origin) {
        if (!isOrigin(origin)) {
            return UNKNOWN;
        }
        act();
        return turn(world.aside, origin);
    }

    int undo() {
        if (acts.isEmpty()) {
            return LATE;
        }
        world = acts.remove(acts.size() - 1);
        return acts.size();
    }

    // ---- asked

    int state(int start, int length, int origin) {
        if (!isRange(start, length)) {
            return BAD;
        }
        return isOrigin(origin) ? stateIn(world, new Range(start, length), origin) : UNKNOWN;
    }

    int goes(int place, int law) {
        if (place < 0 || place > 31) {
            return UNKNOWN;
        }
        return law < 0 || law > 3 ? BAD : goesIn(world, place, law);
    }

    int theft(int place, int origin, int law) {
        if (place < 0 || place > 31 || !isOrigin(origin)) {
            return UNKNOWN;
        }
        if (law < 0 || law > 3) {
            return BAD;
        }
        for (int length = 0; length <= 5; length++) {
            for (int start = 0; start < 32; start++) {
                if (isRange(start, length) && new Range(start, length).has(place)) {
                    World w = world.copy();
                    w.routes.add(new Route(new Range(start, length), origin));
                    if (goesIn(w, place, law) == w.routes.size() - 1) {
                        return length;
                    }
                }
            }
        }
        return NONE;
    }

    int lost(int paper) {
        if (paper < 1 || paper >= papers.size()) {
            return UNKNOWN;
        }
        World w = world.copy();
        w.revoked.add(paper);
        int bits = 0;
        for (int r = 0; r < w.routes.size(); r++) {
            Route route = w.routes.get(r);
            bits += stateIn(world, route) == 2 && stateIn(w, route) != 2 ? 1 << r : 0;
        }
        return bits;
    }

    int judge(int n, long row) {
        if (n < 1 || n > 4 || row < 0 || Long.toString(row).length() > 4 * n) {
            return BAD;
        }
        String figures = "0".repeat(4 * n - Long.toString(row).length()) + row;
        World w = world.copy();
        for (int i = 0; i < n; i++) {
            if (!passes(w, figures.substring(4 * i, 4 * i + 4))) {
                return i;
            }
        }
        return NONE;
    }

    private boolean passes(World w, String doing) {
        int a = doing.charAt(1) - '0';
        int last = doing.charAt(3) - '0';
        int place = Integer.parseInt(doing.substring(2));
        if (doing.matches("1[1-5]00") && a < papers.size()) {
            turn(w.revoked, a);
            return true;
        }
        if (doing.equals("2000") && w.day < 9) {
            w.day++;
            return true;
        }
        if (doing.matches("3[0-5]00")) {
            turn(w.aside, a);
            return true;
        }
        if (doing.matches("8[0-5]00") && a < w.routes.size()) {
            w.routes.remove(a);
            return true;
        }
        return doing.matches("4[0-5]0[0-2]") && a < w.routes.size() && stateIn(w, w.routes.get(a)) == last
                || doing.matches("5[0-3][0-3][0-9]") && place < 32 && goesIn(w, place, a) == NONE
                || doing.matches("6[0-5]0[01]") && a < papers.size() && stands(w, a) == (last == 1)
                || doing.matches("7[0-7]0[01]") && a < w.grants.size() && counts(w, w.grants.get(a)) == (last == 1);
    }

    // ---- seen

    int see(int start, int length, int origin, int s) {
        if (!isRange(start, length) || s < 0 || s > 2) {
            return BAD;
        }
        if (!isOrigin(origin)) {
            return UNKNOWN;
        }
        if (seen.size() == 6) {
            return FULL;
        }
        seen.add(new Seen(new Range(start, length), origin, s));
        return seen.size();
    }

    int unsee() {
        int n = seen.size();
        seen.clear();
        return n;
    }

    int which(int grant) {
        if (grant < 0 || grant >= world.grants.size()) {
            return UNKNOWN;
        }
        Grant g = world.grants.get(grant);
        int bits = 0;
        for (int most = g.range.length; most <= 5; most++) {
            World w = world.copy();
            w.grants.set(grant, new Grant(g.paper, g.origin, g.range, most));
            boolean all = true;
            for (Seen s : seen) {
                all = all && stateIn(w, s.range, s.origin) == s.s;
            }
            bits += all ? 1 << most : 0;
        }
        return bits;
    }

    // ---- shares, chances

    private static int fraction(long above, long below, boolean upper) {
        BigInteger a = BigInteger.valueOf(above);
        BigInteger b = BigInteger.valueOf(below);
        return (upper ? a : b).divide(a.gcd(b)).intValueExact();
    }

    int share(int grant, boolean upper) {
        int n = world.grants.size();
        if (grant < 0 || grant >= n) {
            return UNKNOWN;
        }
        int[] right = new int[1 << n];
        for (int set = 0; set < 1 << n; set++) {
            World w = world.copy();
            w.grants.clear();
            for (int g = 0; g < n; g++) {
                if ((set >> g & 1) == 1) {
                    w.grants.add(world.grants.get(g));
                }
            }
            right[set] = rightCount(w);
        }
        long[] sums = new long[2];
        goThroughOrders(right, n, grant, 0, sums);
        return fraction(sums[0], sums[1], upper);
    }

    /** Every order of all GRANTS, one by one: sums has what the GRANT brings in each, and how many there are. */
    private static void goThroughOrders(int[] right, int n, int grant, int come, long[] sums) {
        if ((come >> grant & 1) == 1) {
            throw new IllegalStateException("has come already");
        }
        for (int g = 0; g < n; g++) {
            if ((come >> g & 1) == 1) {
                continue;
            }
            if (g == grant) {
                long orders = 1;
                for (int left = n - Integer.bitCount(come) - 1; left > 1; left--) {
                    orders *= left;
                }
                sums[0] += orders * (right[come | 1 << g] - right[come]);
                sums[1] += orders;
            } else {
                goThroughOrders(right, n, grant, come | 1 << g, sums);
            }
        }
    }

    int chance(int v, int x, boolean upper) {
        if (v < 0 || v > 6 || x < 0 || x > 10) {
            return BAD;
        }
        World w = world.copy();
        w.revoked.clear();
        long below = 1;
        for (int p = 1; p < papers.size(); p++) {
            below *= 10;
        }
        return fraction(outcomes(w, 1, v, x), below, upper);
    }

    private long outcomes(World w, int paper, int v, int x) {
        if (paper == papers.size()) {
            return rightCount(w) >= v ? 1 : 0;
        }
        long kept = outcomes(w, paper + 1, v, x);
        World without = w.copy();
        without.revoked.add(paper);
        return (10 - x) * kept + x * outcomes(without, paper + 1, v, x);
    }

    long seed(long v) {
        long was = seed;
        seed = v;
        return was;
    }

    int drawn(int m) {
        if (m < 1 || m > 40) {
            return BAD;
        }
        int sum = 0;
        for (int i = 0; i < m; i++) {
            seed = BigInteger.valueOf(seed).multiply(BigInteger.valueOf(6364136223846793005L))
                    .add(BigInteger.valueOf(1442695040888963407L)).longValue();
            int v = (int) (seed >>> 33);
            int length = v % 6;
            int start = v / 6 % 32;
            while (!isRange(start, length)) {
                start--;
            }
            sum += stateIn(world, new Range(start, length), v / 192 % 6);
        }
        return sum;
    }

    // ---- slots

    int keep(int slot) {
        if (slot != 0 && slot != 1) {
            return UNKNOWN;
        }
        slots[slot] = world.copy();
        return world.routes.size();
    }

    int again(int slot) {
        if (slot != 0 && slot != 1) {
            return UNKNOWN;
        }
        if (slots[slot] == null) {
            return LATE;
        }
        world = slots[slot].copy();
        acts.clear();
        return world.routes.size();
    }
}
