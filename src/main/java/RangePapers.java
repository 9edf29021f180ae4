/**
 * Who may announce a range: papers handed down a tree, grants on them, and routes that are right,
 * wrong or not known of. The words in capitals are those of the document.
 */
public final class RangePapers {
    public static final int UNKNOWN = -1, BAD = -2, LATE = -3, FULL = -4, NONE = -9;

    private static final int PLACE_COUNT = 32, ORIGIN_COUNT = 6, LAW_COUNT = 4, SLOT_COUNT = 2;
    private static final int LONGEST = 5, LAST_DAY = 9, BY_HAND = 9, TENTHS = 10;
    private static final int MAX_PAPERS = 6, MAX_GRANTS = 8, MAX_ROUTES = 6;
    private static final int MAX_ACTS = 14, MAX_SEEN = 6, MAX_LETTERS = 99;
    private static final int MAX_DOINGS = 4, MAX_DRAWS = 40;

    private static final int WRONG = 0, NOT_KNOWN = 1, RIGHT = 2;

    /** Columns of every row that has a RANGE; COVER has its PLACES as bits. */
    private static final int START = 0, LENGTH = 1, COVER = 2;
    private static final int PARENT = 3, LASTS = 4, PAPER_COLUMNS = 5;
    private static final int ORIGIN = 3, HOLDER = 4, MOST = 5, GRANT_COLUMNS = 6;
    private static final int ROUTE_COLUMNS = 4;
    private static final int SEEN_STATE = 4, SEEN_COLUMNS = 5;

    /** Columns of a row of ACTS; from CELLS on stands the row that a WITHDRAWN or TORN took away. */
    private static final int KIND = 0, NUMBER = 1, CELLS = 2, ACT_COLUMNS = CELLS + GRANT_COLUMNS;
    private static final int ANNOUNCED = 1, WITHDRAWN = 2, GRANTED = 3, TORN = 4;
    private static final int REVOKED = 5, NIGHT = 6, SET_ASIDE = 7;

    /** The least number that each of 1 .. 8 divides. */
    private static final int SHARE_PARTS = 840;

    private final Rows papers = new Rows(MAX_PAPERS, PAPER_COLUMNS);
    private final Books now = new Books(papers);
    private final Books trial = new Books(papers);
    private final Books firstSlot = new Books(papers);
    private final Books secondSlot = new Books(papers);
    private final Rows acts = new Rows(MAX_ACTS, ACT_COLUMNS);
    private final Rows seen = new Rows(MAX_SEEN, SEEN_COLUMNS);
    private final Text text = new Text();
    private final int[] doings = new int[MAX_DOINGS];
    private int keptSlots;
    private long seedNow;

    public RangePapers() {
        papers.addRange(0, 0, NONE, NONE, 0);
    }

    // ---- the tree

    public int write(int letter) {
        if (letter < 0 || letter > 255) {
            return BAD;
        }
        if (text.length >= MAX_LETTERS) {
            return FULL;
        }
        text.append(letter);
        return text.length;
    }

    public int wipe() {
        int was = text.length;
        text.length = 0;
        return was;
    }

    public int fault() {
        return text.readAll();
    }

    public int tree() {
        if (text.readAll() != NONE) {
            return LATE;
        }
        papers.copyFrom(text.papers);
        now.begin(text.grants, text.routes);
        acts.count = 0;
        keptSlots = 0;
        return papers.count;
    }

    public int about(int what) {
        switch (what) {
            case 0: return papers.count;
            case 1: return now.grants.count;
            case 2: return now.routes.count;
            case 3: return now.day;
            case 4: return now.revoked;
            case 5: return now.standing(now.revoked);
            case 6: return now.aside;
            case 7: return now.routesThatAre(RIGHT, now.countingNow());
            case 8: return now.routesThatAre(WRONG, now.countingNow());
            case 9: return now.bare();
            case 10: return acts.count;
            case 11: return seen.count;
            case 12: return text.length;
            default: return BAD;
        }
    }

    public int paper(int paper, int what) {
        if (!papers.has(paper)) {
            return UNKNOWN;
        }
        switch (what) {
            case 0: return papers.at(paper, PARENT);
            case 1: return papers.at(paper, START);
            case 2: return papers.at(paper, LENGTH);
            case 3: return papers.at(paper, LASTS);
            case 4: return bit(now.standing(now.revoked), paper);
            default: return BAD;
        }
    }

    public int grant(int grant, int what) {
        if (!now.grants.has(grant)) {
            return UNKNOWN;
        }
        switch (what) {
            case 0: return now.grants.at(grant, HOLDER);
            case 1: return now.grants.at(grant, ORIGIN);
            case 2: return now.grants.at(grant, START);
            case 3: return now.grants.at(grant, LENGTH);
            case 4: return now.grants.at(grant, MOST);
            case 5: return bit(now.countingNow(), grant);
            default: return BAD;
        }
    }

    public int route(int route, int what) {
        if (!now.routes.has(route)) {
            return UNKNOWN;
        }
        switch (what) {
            case 0: return now.routes.at(route, START);
            case 1: return now.routes.at(route, LENGTH);
            case 2: return now.routes.at(route, ORIGIN);
            case 3: return now.stateOf(now.routes.at(route, COVER), now.routes.at(route, LENGTH),
                    now.routes.at(route, ORIGIN), now.countingNow());
            case 4: return now.makerOf(route);
            default: return BAD;
        }
    }

    // ---- acts

    public int announce(int start, int length, int origin) {
        if (!isRange(start, length)) {
            return BAD;
        }
        if (!isOrigin(origin)) {
            return UNKNOWN;
        }
        if (now.routes.count >= MAX_ROUTES) {
            return FULL;
        }
        int number = now.routes.addRange(start, length, origin, 0, 0);
        remember(ANNOUNCED, number);
        return number;
    }

    public int withdraw(int route) {
        if (!now.routes.has(route)) {
            return UNKNOWN;
        }
        rememberRow(WITHDRAWN, route, now.routes);
        now.routes.closeAt(route);
        return now.routes.count;
    }

    public int allow(int paper, int origin, int start, int length, int most) {
        if (!papers.has(paper) && paper != BY_HAND || !isOrigin(origin)) {
            return UNKNOWN;
        }
        if (!isRange(start, length) || most < length || most > LONGEST) {
            return BAD;
        }
        if (now.grants.count >= MAX_GRANTS) {
            return FULL;
        }
        int number = now.grants.addRange(start, length, origin, paper, most);
        remember(GRANTED, number);
        return number;
    }

    public int tear(int grant) {
        if (!now.grants.has(grant)) {
            return UNKNOWN;
        }
        rememberRow(TORN, grant, now.grants);
        now.grants.closeAt(grant);
        return now.grants.count;
    }

    public int revoke(int paper) {
        if (paper == 0 || !papers.has(paper)) {
            return UNKNOWN;
        }
        now.revoked ^= 1 << paper;
        remember(REVOKED, paper);
        return bit(now.revoked, paper);
    }

    public int night() {
        if (now.day >= LAST_DAY) {
            return LATE;
        }
        now.day++;
        remember(NIGHT, 0);
        return now.day;
    }

    public int setAside(int origin) {
        if (!isOrigin(origin)) {
            return UNKNOWN;
        }
        now.aside ^= 1 << origin;
        remember(SET_ASIDE, origin);
        return bit(now.aside, origin);
    }

    public int undo() {
        int last = acts.count - 1;
        if (last < 0) {
            return LATE;
        }
        takeBack(last);
        acts.closeAt(last);
        return acts.count;
    }

    // ---- asked

    public int state(int start, int length, int origin) {
        if (!isRange(start, length)) {
            return BAD;
        }
        if (!isOrigin(origin)) {
            return UNKNOWN;
        }
        return now.stateOf(coverOf(start, length), length, origin, now.countingNow());
    }

    public int goes(int place, int law) {
        if (!isPlace(place)) {
            return UNKNOWN;
        }
        if (!isLaw(law)) {
            return BAD;
        }
        return now.routeTo(place, law);
    }

    public int theft(int place, int origin, int law) {
        if (!isPlace(place) || !isOrigin(origin)) {
            return UNKNOWN;
        }
        if (!isLaw(law)) {
            return BAD;
        }
        for (int length = 0; length <= LONGEST; length++) {
            trial.copyFrom(now);
            int start = place - leftBySize(place, length);
            int thief = trial.routes.addRange(start, length, origin, 0, 0);
            if (trial.routeTo(place, law) == thief) {
                return length;
            }
        }
        return NONE;
    }

    public int lost(int paper) {
        if (paper == 0 || !papers.has(paper)) {
            return UNKNOWN;
        }
        int without = now.counting(now.standing(now.revoked | 1 << paper));
        return now.routesThatAre(RIGHT, now.countingNow()) & ~now.routesThatAre(RIGHT, without);
    }

    public int judge(int n, long row) {
        if (n < 1 || n > MAX_DOINGS || row < 0 || !splitDoings(n, row)) {
            return BAD;
        }
        trial.copyFrom(now);
        for (int i = 0; i < n && i < MAX_DOINGS; i++) {
            if (!trial.canBe(doings[i])) {
                return i;
            }
        }
        return NONE;
    }

    // ---- seen

    public int see(int start, int length, int origin, int s) {
        if (!isRange(start, length) || s < WRONG || s > RIGHT) {
            return BAD;
        }
        if (!isOrigin(origin)) {
            return UNKNOWN;
        }
        if (seen.count >= MAX_SEEN) {
            return FULL;
        }
        seen.addRange(start, length, origin, s, 0);
        return seen.count;
    }

    public int unsee() {
        int was = seen.count;
        seen.count = 0;
        return was;
    }

    public int which(int grant) {
        if (!now.grants.has(grant)) {
            return UNKNOWN;
        }
        trial.copyFrom(now);
        int mosts = 0;
        for (int most = now.grants.at(grant, LENGTH); most <= LONGEST; most++) {
            trial.grants.put(grant, MOST, most);
            if (trial.agreesWith(seen)) {
                mosts |= 1 << most;
            }
        }
        return mosts;
    }

    // ---- shares, chances

    public int share(int grant, boolean upper) {
        if (!now.grants.has(grant)) {
            return UNKNOWN;
        }
        int counting = now.countingNow();
        int above = 0;
        for (int route = 0; route < now.routes.count; route++) {
            int makers = now.grantsThatMakeRight(route, counting);
            int many = Integer.bitCount(makers);
            // Only the first of them to come makes the ROUTE RIGHT, and each is as likely the first.
            if (bit(makers, grant) == 1 && many > 0) {
                above += SHARE_PARTS / many;
            }
        }
        return fraction(above, SHARE_PARTS, upper);
    }

    public int chance(int v, int x, boolean upper) {
        if (v < 0 || v > MAX_ROUTES || x < 0 || x > TENTHS) {
            return BAD;
        }
        int above = 0;
        int below = 0;
        for (int set = 0; set < 1 << papers.count - 1; set++) {
            int gone = set << 1;
            int weight = weightOf(gone, x);
            int right = now.routesThatAre(RIGHT, now.counting(now.standing(gone)));
            below += weight;
            if (Integer.bitCount(right) >= v) {
                above += weight;
            }
        }
        return fraction(above, below, upper);
    }

    public long seed(long v) {
        long was = seedNow;
        seedNow = v;
        return was;
    }

    public int drawn(int m) {
        if (m < 1 || m > MAX_DRAWS) {
            return BAD;
        }
        int counting = now.countingNow();
        int sum = 0;
        for (int i = 0; i < m; i++) {
            seedNow = seedNow * 6364136223846793005L + 1442695040888963407L;
            int v = (int) (seedNow >>> 33);
            int length = v % 6;
            int place = v / 6 % 32;
            int start = place - leftBySize(place, length);
            sum += now.stateOf(coverOf(start, length), length, v / 192 % 6, counting);
        }
        return sum;
    }

    // ---- slots

    public int keep(int slot) {
        if (slot < 0 || slot >= SLOT_COUNT) {
            return UNKNOWN;
        }
        slotBooks(slot).copyFrom(now);
        keptSlots |= 1 << slot;
        return now.routes.count;
    }

    public int again(int slot) {
        if (slot < 0 || slot >= SLOT_COUNT) {
            return UNKNOWN;
        }
        if (bit(keptSlots, slot) == 0) {
            return LATE;
        }
        now.copyFrom(slotBooks(slot));
        acts.count = 0;
        return now.routes.count;
    }

    // ---- the rest is not of the face

    private Books slotBooks(int slot) {
        return slot == 0 ? firstSlot : secondSlot;
    }

    /** Adds an ACT behind all; the first one is forgotten if there is no more room. */
    private int remember(int kind, int number) {
        if (acts.count >= MAX_ACTS) {
            acts.closeAt(0);
        }
        int act = acts.count;
        acts.openAt(act);
        acts.put(act, KIND, kind);
        acts.put(act, NUMBER, number);
        return act;
    }

    private void rememberRow(int kind, int number, Rows from) {
        int act = remember(kind, number);
        for (int column = 0; column < from.width; column++) {
            acts.put(act, CELLS + column, from.at(number, column));
        }
    }

    private void takeBack(int act) {
        int number = acts.at(act, NUMBER);
        switch (acts.at(act, KIND)) {
            case ANNOUNCED: now.routes.closeAt(number); break;
            case WITHDRAWN: putBack(act, number, now.routes); break;
            case GRANTED: now.grants.closeAt(number); break;
            case TORN: putBack(act, number, now.grants); break;
            case REVOKED: now.revoked ^= 1 << number; break;
            case NIGHT: now.day--; break;
            case SET_ASIDE: now.aside ^= 1 << number; break;
            default: break;
        }
    }

    private void putBack(int act, int number, Rows into) {
        into.openAt(number);
        for (int column = 0; column < into.width; column++) {
            into.put(number, column, acts.at(act, CELLS + column));
        }
    }

    /** Splits row into n doings of four figures each; false if it has more figures than that. */
    private boolean splitDoings(int n, long row) {
        long rest = row;
        for (int i = Math.min(n, MAX_DOINGS) - 1; i >= 0; i--) {
            doings[i] = (int) (rest % 10000);
            rest /= 10000;
        }
        return rest == 0;
    }

    /** In how many of ten to the number of PAPERS but 0 just those of gone are REVOKED. */
    private int weightOf(int gone, int x) {
        int weight = 1;
        for (int paper = 1; paper < papers.count; paper++) {
            weight *= bit(gone, paper) == 1 ? x : TENTHS - x;
        }
        return weight;
    }

    private static int fraction(int above, int below, boolean upper) {
        int common = below;
        int rest = above;
        // Each two steps halve the rest at least, so 64 are more than an int can need.
        for (int i = 0; i < 64 && rest != 0; i++) {
            int next = common % rest;
            common = rest;
            rest = next;
        }
        int told = upper ? above : below;
        return common > 1 ? told / common : told;
    }

    private static int bit(int bits, int number) {
        return bits >> number & 1;
    }

    private static boolean isPlace(int place) {
        return place >= 0 && place < PLACE_COUNT;
    }

    private static boolean isOrigin(int origin) {
        return origin >= 0 && origin < ORIGIN_COUNT;
    }

    private static boolean isLaw(int law) {
        return law >= 0 && law < LAW_COUNT;
    }

    private static boolean isRange(int start, int length) {
        return isPlace(start) && length >= 0 && length <= LONGEST && leftBySize(start, length) == 0;
    }

    /** What is left of a PLACE by the SIZE of a LENGTH (0 .. 5): SIZE is a power of two. */
    private static int leftBySize(int place, int length) {
        return place & (PLACE_COUNT >> length) - 1;
    }

    /** The PLACES of a RANGE as bits. */
    private static int coverOf(int start, int length) {
        // A shift by 32 would be one by 0.
        return length == 0 ? -1 : (1 << (PLACE_COUNT >> length)) - 1 << start;
    }

    private static boolean isWithin(int cover, int outer) {
        return (cover & ~outer) == 0;
    }

    /** Rows of numbers, numbered as they come; if one goes, those behind it have numbers 1 less. */
    private static final class Rows {
        final int limit;
        final int width;
        final int[] cells;
        int count;

        Rows(int limit, int width) {
            this.limit = Math.max(limit, 0);
            this.width = Math.max(width, 0);
            this.cells = new int[this.limit * this.width];
        }

        boolean has(int row) {
            return row >= 0 && row < count;
        }

        int at(int row, int column) {
            if (row < 0 || row >= count || column < 0 || column >= width) {
                return 0;
            }
            return cells[row * width + column];
        }

        void put(int row, int column, int value) {
            if (row >= 0 && row < count && column >= 0 && column < width) {
                cells[row * width + column] = value;
            }
        }

        /** Adds a row with a RANGE behind all, and answers its number; what has no column is dropped. */
        int addRange(int start, int length, int third, int fourth, int fifth) {
            int row = count;
            openAt(row);
            put(row, START, start);
            put(row, LENGTH, length);
            put(row, COVER, coverOf(start, length));
            put(row, COVER + 1, third);
            put(row, COVER + 2, fourth);
            put(row, COVER + 3, fifth);
            return row;
        }

        /** Makes room for a row; what stands in it is left to the caller to put. */
        void openAt(int row) {
            if (row < 0 || row > count || count >= limit) {
                return;
            }
            System.arraycopy(cells, row * width, cells, (row + 1) * width, (count - row) * width);
            count++;
        }

        void closeAt(int row) {
            if (row < 0 || row >= count) {
                return;
            }
            count--;
            System.arraycopy(cells, (row + 1) * width, cells, row * width, (count - row) * width);
        }

        void copyFrom(Rows other) {
            if (other.width != width || other.count > limit) {
                return;
            }
            System.arraycopy(other.cells, 0, cells, 0, other.count * width);
            count = other.count;
        }
    }

    /** THE TEXT, and what it tells when it is read. */
    private static final class Text {
        final char[] letters = new char[MAX_LETTERS];
        int length;
        final Rows papers = new Rows(MAX_PAPERS, PAPER_COLUMNS);
        final Rows grants = new Rows(MAX_GRANTS, GRANT_COLUMNS);
        final Rows routes = new Rows(MAX_ROUTES, ROUTE_COLUMNS);
        int next;
        int firstFault;

        void append(int letter) {
            if (length < MAX_LETTERS) {
                letters[length] = (char) letter;
                length++;
            }
        }

        /** Reads THE TEXT from its first letter on; answers FAULT. */
        int readAll() {
            papers.count = 0;
            papers.addRange(0, 0, NONE, NONE, 0);
            grants.count = 0;
            routes.count = 0;
            firstFault = NONE;
            if (letterAt(0) != 'P') {
                return 0;
            }
            next = 1;
            for (int part = 0; part < MAX_LETTERS && next < length && firstFault == NONE; part++) {
                readPart();
            }
            return firstFault;
        }

        void readPart() {
            char kind = letterAt(next);
            if (kind == 'p' && papers.count < MAX_PAPERS) {
                next++;
                readPaper();
            } else if (kind == 'g' && grants.count < MAX_GRANTS) {
                next++;
                readGrant();
            } else if (kind == 'r' && routes.count < MAX_ROUTES) {
                next++;
                readRoute();
            } else {
                firstFault = next;
            }
        }

        void readPaper() {
            int parent = readFigure(0, papers.count - 1);
            int start = readStart();
            int rangeLength = readLength(start);
            int lasts = readFigure(0, LAST_DAY);
            if (firstFault == NONE) {
                papers.addRange(start, rangeLength, parent, lasts, 0);
            }
        }

        void readGrant() {
            int holder = readHolder();
            int origin = readFigure(0, ORIGIN_COUNT - 1);
            int start = readStart();
            int rangeLength = readLength(start);
            int most = readFigure(rangeLength, LONGEST);
            if (firstFault == NONE) {
                grants.addRange(start, rangeLength, origin, holder, most);
            }
        }

        void readRoute() {
            int start = readStart();
            int rangeLength = readLength(start);
            int origin = readFigure(0, ORIGIN_COUNT - 1);
            if (firstFault == NONE) {
                routes.addRange(start, rangeLength, origin, 0, 0);
            }
        }

        int readHolder() {
            boolean byHand = letterAt(next) == '0' + BY_HAND;
            return byHand ? readFigure(BY_HAND, BY_HAND) : readFigure(0, papers.count - 1);
        }

        int readStart() {
            int tens = readFigure(0, 3);
            return tens * 10 + readFigure(0, tens == 3 ? 1 : 9);
        }

        /** A LENGTH that fits START: SIZE halves from each to the next, so all from the first on do. */
        int readLength(int start) {
            int least = 0;
            while (least < LONGEST && leftBySize(start, least) != 0) {
                least++;
            }
            return readFigure(least, LONGEST);
        }

        /** A figure of least .. most; nothing more is read behind a FAULT. */
        int readFigure(int least, int most) {
            if (firstFault != NONE) {
                return least;
            }
            int figure = letterAt(next) - '0';
            if (next >= length || figure < least || figure > most) {
                firstFault = next;
                return least;
            }
            next++;
            return figure;
        }

        /** The letter at a place of THE TEXT; where there is none, one that no TREE has. */
        char letterAt(int place) {
            return place >= 0 && place < length && place < MAX_LETTERS ? letters[place] : 0;
        }
    }

    /** GRANTS, ROUTES, what is REVOKED and SET ASIDE, and THE DAY, on the PAPERS of THE TREE. */
    private static final class Books {
        final Rows papers;
        final Rows grants = new Rows(MAX_GRANTS, GRANT_COLUMNS);
        /** One more than there may be: a thief's comes behind all. */
        final Rows routes = new Rows(MAX_ROUTES + 1, ROUTE_COLUMNS);
        int revoked;
        int aside;
        int day;

        Books(Rows papers) {
            this.papers = papers;
        }

        void begin(Rows toldGrants, Rows toldRoutes) {
            grants.copyFrom(toldGrants);
            routes.copyFrom(toldRoutes);
            revoked = 0;
            aside = 0;
            day = 0;
        }

        void copyFrom(Books other) {
            grants.copyFrom(other.grants);
            routes.copyFrom(other.routes);
            revoked = other.revoked;
            aside = other.aside;
            day = other.day;
        }

        /** PAPERS that STAND, if just those of gone are REVOKED; a PARENT is told ahead, so one pass will do. */
        int standing(int gone) {
            int standing = 1;
            for (int paper = 1; paper < papers.count; paper++) {
                int parent = papers.at(paper, PARENT);
                if (bit(gone, paper) == 0 && day <= papers.at(paper, LASTS) && bit(standing, parent) == 1
                        && isWithin(papers.at(paper, COVER), papers.at(parent, COVER))) {
                    standing |= 1 << paper;
                }
            }
            return standing;
        }

        /** GRANTS that COUNT, if just those PAPERS STAND. */
        int counting(int standing) {
            int counting = 0;
            for (int grant = 0; grant < grants.count; grant++) {
                int holder = grants.at(grant, HOLDER);
                if (holder == BY_HAND || bit(standing, holder) == 1
                        && isWithin(grants.at(grant, COVER), papers.at(holder, COVER))
                        && bit(aside, grants.at(grant, ORIGIN)) == 0) {
                    counting |= 1 << grant;
                }
            }
            return counting;
        }

        int countingNow() {
            return counting(standing(revoked));
        }

        /** The state of a RANGE with an ORIGIN, if just those GRANTS COUNT. */
        int stateOf(int cover, int length, int origin, int counting) {
            int found = NOT_KNOWN;
            for (int grant = 0; grant < grants.count; grant++) {
                if (bit(counting, grant) == 1 && isWithin(cover, grants.at(grant, COVER))) {
                    if (grants.at(grant, ORIGIN) == origin && grants.at(grant, MOST) >= length) {
                        return RIGHT;
                    }
                    found = WRONG;
                }
            }
            return found;
        }

        /** ROUTES of a state, if just those GRANTS COUNT. */
        int routesThatAre(int wanted, int counting) {
            int found = 0;
            for (int route = 0; route < routes.count; route++) {
                int cover = routes.at(route, COVER);
                if (stateOf(cover, routes.at(route, LENGTH), routes.at(route, ORIGIN), counting) == wanted) {
                    found |= 1 << route;
                }
            }
            return found;
        }

        /** Of the counting GRANTS those each of which alone makes the ROUTE RIGHT. */
        int grantsThatMakeRight(int route, int counting) {
            int makers = 0;
            for (int grant = 0; grant < grants.count; grant++) {
                int alone = counting & 1 << grant;
                if (bit(routesThatAre(RIGHT, alone), route) == 1) {
                    makers |= alone;
                }
            }
            return makers;
        }

        int makerOf(int route) {
            int standing = standing(revoked);
            int maker = 0;
            for (int paper = 1; paper < papers.count; paper++) {
                if (bit(standing, paper) == 1 && isWithin(routes.at(route, COVER), papers.at(paper, COVER))
                        && papers.at(paper, LENGTH) > papers.at(maker, LENGTH)) {
                    maker = paper;
                }
            }
            return maker;
        }

        int bare() {
            int counting = countingNow();
            int covered = 0;
            for (int grant = 0; grant < grants.count; grant++) {
                if (bit(counting, grant) == 1) {
                    covered |= grants.at(grant, COVER);
                }
            }
            return Integer.bitCount(~covered);
        }

        /** ROUTES that a LAW lets in. */
        int letIn(int law) {
            int counting = countingNow();
            int all = (1 << routes.count) - 1;
            int right = routesThatAre(RIGHT, counting);
            int wrong = routesThatAre(WRONG, counting);
            switch (law) {
                case 0: return all;
                case 1: return all & ~wrong;
                case 2: return right;
                default: return right | apartFrom(right, all & ~right & ~wrong);
            }
        }

        /** Of some ROUTES those that have no PLACE in common with one that is RIGHT. */
        int apartFrom(int right, int some) {
            int taken = 0;
            for (int route = 0; route < routes.count; route++) {
                if (bit(right, route) == 1) {
                    taken |= routes.at(route, COVER);
                }
            }
            int apart = 0;
            for (int route = 0; route < routes.count; route++) {
                if (bit(some, route) == 1 && (routes.at(route, COVER) & taken) == 0) {
                    apart |= 1 << route;
                }
            }
            return apart;
        }

        /** By which ROUTE a PLACE GOES by a LAW. */
        int routeTo(int place, int law) {
            int let = letIn(law);
            int best = NONE;
            for (int route = 0; route < routes.count; route++) {
                if (bit(let, route) == 1 && bit(routes.at(route, COVER), place) == 1
                        && (best == NONE || routes.at(route, LENGTH) > routes.at(best, LENGTH))) {
                    best = route;
                }
            }
            return best;
        }

        boolean agreesWith(Rows seen) {
            int counting = countingNow();
            for (int i = 0; i < seen.count; i++) {
                int found = stateOf(seen.at(i, COVER), seen.at(i, LENGTH), seen.at(i, ORIGIN), counting);
                if (found != seen.at(i, SEEN_STATE)) {
                    return false;
                }
            }
            return true;
        }

        /** Does or asks one doing, told as four figures; false if it can not be, or is not so. */
        boolean canBe(int doing) {
            int number = doing / 100 % 10;
            int last = doing % 10;
            boolean blank = doing / 10 % 10 == 0;
            switch (doing / 1000) {
                case 1: return blank && last == 0 && canRevoke(number);
                case 2: return blank && last == 0 && number == 0 && canPassNight();
                case 3: return blank && last == 0 && canSetAside(number);
                case 4: return blank && routes.has(number) && bit(routesThatAre(last, countingNow()), number) == 1;
                case 5: return isLaw(number) && isPlace(doing % 100) && routeTo(doing % 100, number) == NONE;
                case 6: return blank && papers.has(number) && bit(standing(revoked), number) == last;
                case 7: return blank && grants.has(number) && bit(countingNow(), number) == last;
                case 8: return blank && last == 0 && canWithdraw(number);
                default: return false;
            }
        }

        boolean canRevoke(int paper) {
            if (paper == 0 || !papers.has(paper)) {
                return false;
            }
            revoked ^= 1 << paper;
            return true;
        }

        boolean canPassNight() {
            if (day >= LAST_DAY) {
                return false;
            }
            day++;
            return true;
        }

        boolean canSetAside(int origin) {
            if (!isOrigin(origin)) {
                return false;
            }
            aside ^= 1 << origin;
            return true;
        }

        boolean canWithdraw(int route) {
            if (!routes.has(route)) {
                return false;
            }
            routes.closeAt(route);
            return true;
        }
    }
}
