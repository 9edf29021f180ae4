/** The first part of 'Terms' at its boundaries: RANGES, ORIGINS, THE DAY, PAPERS, GRANTS, ROUTES and ACTS. */
public final class TermsTest {
    private static final int UNKNOWN = RangePapers.UNKNOWN, BAD = RangePapers.BAD, LATE = RangePapers.LATE;
    private static final int FULL = RangePapers.FULL, NONE = RangePapers.NONE;
    private static final int WRONG = 0, NOT_KNOWN = 1, RIGHT = 2;
    private static final int[][] RANGES = ranges();

    private static final Due due = new Due();

    public static void main(String[] args) {
        startsAndLengths();
        placesOfARange();
        withinOfGrants();
        withinOfPapers();
        withinOfGrantsAndPapers();
        withinOfRoutesAndPapers();
        origins();
        days();
        lasts();
        paperZero();
        stands();
        handedDown();
        mosts();
        counts();
        states();
        severalGrants();
        fullGrants();
        fullRoutes();
        alikeRoutes();
        withdrawnNumbers();
        tornNumbers();
        turnedTwice();
        eachIsAnAct();
        fourteenActs();
        undone();
        due.end();
    }

    /** All 63, by adding up SIZES. */
    private static int[][] ranges() {
        int[][] all = new int[63][];
        int n = 0;
        int size = 32;
        for (int length = 0; length <= 5; length++) {
            for (int start = 0; start < 32; start += size) {
                all[n++] = new int[] {start, length};
            }
            size /= 2;
        }
        return all;
    }

    private static int indexOf(int start, int length) {
        for (int i = 0; i < RANGES.length; i++) {
            if (RANGES[i][0] == start && RANGES[i][1] == length) {
                return i;
            }
        }
        return -1;
    }

    private static boolean has(int[] range, int place) {
        int[] sizes = {32, 16, 8, 4, 2, 1};
        return place >= range[0] && place < range[0] + sizes[range[1]];
    }

    private static boolean within(int[] range, int[] outer) {
        for (int place = 0; place < 32; place++) {
            if (has(range, place) && !has(outer, place)) {
                return false;
            }
        }
        return true;
    }

    private static String told(int[] range) {
        return "" + range[0] / 10 + range[0] % 10 + range[1];
    }

    private static String name(int[] range) {
        return range[0] + "/" + range[1];
    }

    private static void startsAndLengths() {
        due.begin("a RANGE is a START and a LENGTH (0 .. 5), START divided by its SIZE");
        for (int length = -2; length <= 7; length++) {
            RangePapers announced = new RangePapers();
            RangePapers allowed = new RangePapers();
            RangePapers asked = new RangePapers();
            for (int start = -33; start <= 65; start++) {
                boolean is = indexOf(start, length) >= 0;
                String range = start + "/" + length;
                due.is("state() of " + range, asked.state(start, length, 0), is ? NOT_KNOWN : BAD);
                due.is("announce() of " + range, announced.announce(start, length, 5), is ? 0 : BAD);
                due.is("allow() of " + range, allowed.allow(9, 5, start, length, 5), is ? 0 : BAD);
                due.is("see() of " + range, asked.see(start, length, 5, 2), is ? 1 : BAD);
                asked.unsee();
                if (is) {
                    announced.undo();
                    allowed.undo();
                }
            }
        }
    }

    private static void placesOfARange() {
        due.begin("LENGTH 0 is all of them from 0, LENGTH 5 one PLACE");
        for (int[] range : RANGES) {
            RangePapers x = new RangePapers();
            x.announce(range[0], range[1], 0);
            for (int place = 0; place < 32; place++) {
                due.is("goes(" + place + ", 0) by " + name(range), x.goes(place, 0), has(range, place) ? 0 : NONE);
            }
            x.allow(9, 0, range[0], range[1], 5);
            int[] sizes = {32, 16, 8, 4, 2, 1};
            due.is("about(9) by " + name(range), x.about(9), 32 - sizes[range[1]]);
        }
    }

    private static void withinOfGrants() {
        due.begin("WITHIN another one (it is WITHIN itself), of a GRANT's");
        for (int[] outer : RANGES) {
            RangePapers x = new RangePapers();
            x.allow(9, 3, outer[0], outer[1], 5);
            for (int[] range : RANGES) {
                String what = name(range) + " in " + name(outer);
                boolean is = within(range, outer);
                due.is("state() of " + what, x.state(range[0], range[1], 3), is ? RIGHT : NOT_KNOWN);
                due.is("state() by another of " + what, x.state(range[0], range[1], 2), is ? WRONG : NOT_KNOWN);
            }
        }
    }

    private static void withinOfPapers() {
        due.begin("its RANGE is WITHIN its PARENT's");
        for (int[] outer : RANGES) {
            for (int[] range : RANGES) {
                RangePapers x = Due.told("Pp0" + told(outer) + "9p1" + told(range) + "9");
                String what = name(range) + " in " + name(outer);
                due.is("about(5) of " + what, x.about(5), within(range, outer) ? 0b111 : 0b011);
            }
        }
    }

    private static void withinOfGrantsAndPapers() {
        due.begin("a GRANT COUNTS, if its RANGE is WITHIN that PAPER's");
        for (int[] outer : RANGES) {
            RangePapers x = Due.told("Pp0" + told(outer) + "9");
            for (int[] range : RANGES) {
                x.allow(1, 0, range[0], range[1], 5);
                String what = name(range) + " on " + name(outer);
                due.is("grant(0, 5) of " + what, x.grant(0, 5), within(range, outer) ? 1 : 0);
                x.tear(0);
            }
        }
    }

    private static void withinOfRoutesAndPapers() {
        due.begin("MAKER: the PAPER that it is WITHIN");
        for (int[] outer : RANGES) {
            RangePapers x = Due.told("Pp0" + told(outer) + "9");
            for (int[] range : RANGES) {
                x.announce(range[0], range[1], 0);
                String what = name(range) + " by " + name(outer);
                // A PAPER of all PLACES is like PAPER 0, which has the least number.
                due.is("route(0, 4) of " + what, x.route(0, 4), outer[1] > 0 && within(range, outer) ? 1 : 0);
                x.withdraw(0);
            }
        }
    }

    private static void origins() {
        due.begin("ORIGINS are 0 .. 5");
        for (int origin = -2; origin <= 8; origin++) {
            boolean is = origin >= 0 && origin <= 5;
            RangePapers x = new RangePapers();
            due.is("announce() by " + origin, x.announce(0, 0, origin), is ? 0 : UNKNOWN);
            due.is("allow() by " + origin, x.allow(0, origin, 0, 0, 0), is ? 0 : UNKNOWN);
            due.is("state() by " + origin, x.state(0, 0, origin), is ? RIGHT : UNKNOWN);
            due.is("theft() by " + origin, x.theft(0, origin, 2), is ? NONE : UNKNOWN);
            due.is("see() by " + origin, x.see(0, 0, origin, 2), is ? 1 : UNKNOWN);
            due.is("setAside() of " + origin, x.setAside(origin), is ? 1 : UNKNOWN);
            due.is("about(6)", x.about(6), is ? 1 << origin : 0);
            due.is("judge() of " + origin, x.judge(1, 3000 + 100 * Math.max(0, origin)), origin <= 5 ? NONE : 0);
        }
    }

    private static void days() {
        due.begin("THE DAY is 0 .. 9; 0 at first");
        RangePapers x = new RangePapers();
        due.is("about(3)", x.about(3), 0);
        for (int day = 1; day <= 9; day++) {
            due.is("judge() of a night", x.judge(1, 2000), NONE);
            due.is("night()", x.night(), day);
        }
        due.is("judge() of a night", x.judge(1, 2000), 0);
        due.is("night()", x.night(), LATE);
        due.is("about(3)", x.about(3), 9);
        due.is("undo()", x.undo(), 8);
        due.is("about(3)", x.about(3), 8);
        due.is("judge() of two nights", x.judge(2, 20002000), 1);
        due.is("night()", x.night(), 9);
        due.is("night()", x.night(), LATE);
        for (int left = 8; left >= 0; left--) {
            due.is("undo()", x.undo(), left);
            due.is("about(3)", x.about(3), left);
        }
    }

    private static void lasts() {
        due.begin("LASTS till a DAY (0 .. 9; that one, too)");
        for (int last = 0; last <= 9; last++) {
            RangePapers x = Due.told("Pp0001" + last + "g100011r0010");
            for (int day = 0; day <= 9; day++) {
                int is = day <= last ? 1 : 0;
                String what = " till " + last + " on " + day;
                due.is("paper(1, 4)" + what, x.paper(1, 4), is);
                due.is("about(5)" + what, x.about(5), 1 + 2 * is);
                due.is("grant(0, 5)" + what, x.grant(0, 5), is);
                due.is("route(0, 3)" + what, x.route(0, 3), is == 1 ? RIGHT : NOT_KNOWN);
                due.is("route(0, 4)" + what, x.route(0, 4), is);
                due.is("lost(1)" + what, x.lost(1), is);
                due.is("judge() of 6" + what, x.judge(1, 6100 + is), NONE);
                due.is("chance(1, 0, true)" + what, x.chance(1, 0, true), is);
                due.is("paper(0, 4): PAPER 0 lasts for good", x.paper(0, 4), 1);
                // THE DAY behind it is 9 at most.
                int next = day + 1 <= last ? 1 : 0;
                due.is("judge() of the night" + what, x.judge(2, 20006100 + next), day < 9 ? NONE : 0);
                x.night();
            }
        }
    }

    private static void paperZero() {
        due.begin("PAPER 0 alone at first; it is of all PLACES, has no PARENT, and lasts for good");
        RangePapers[] all = {new RangePapers(), Due.told("P"), Due.told("Pp03150p13150")};
        int[] want = {NONE, 0, 0, NONE, 1};
        for (RangePapers x : all) {
            due.is("revoke(0)", x.revoke(0), UNKNOWN);
            for (int day = 0; day <= 9; day++) {
                for (int what = 0; what < 5; what++) {
                    due.is("paper(0, " + what + ") on " + day, x.paper(0, what), want[what]);
                }
                x.night();
            }
            due.is("about(5)", x.about(5), 1);
            x.allow(0, 5, 0, 0, 0);
            x.allow(0, 5, 31, 5, 5);
            due.is("grant(0, 5): all PLACES", x.grant(0, 5), 1);
            due.is("grant(1, 5): the last one", x.grant(1, 5), 1);
        }
    }

    private static void stands() {
        due.begin("STANDS: not REVOKED, THE DAY not behind its last one, its PARENT STANDS, WITHIN its PARENT's");
        RangePapers x = Due.told("Pp00019p10025");
        due.is("about(5)", x.about(5), 0b111);
        x.revoke(2);
        due.is("about(5): 2 is REVOKED", x.about(5), 0b011);
        x.revoke(2);
        due.is("about(5): it is no more", x.about(5), 0b111);
        x.revoke(1);
        due.is("about(5): its PARENT is REVOKED", x.about(5), 0b001);
        due.is("about(4)", x.about(4), 0b010);
        x.revoke(1);
        for (int i = 0; i < 5; i++) {
            x.night();
        }
        due.is("about(5): the last DAY", x.about(5), 0b111);
        x.night();
        due.is("about(5): behind it", x.about(5), 0b011);
        RangePapers y = Due.told("Pp00015p10029");
        for (int i = 0; i < 6; i++) {
            due.is("about(5): day " + i, y.about(5), 0b111);
            y.night();
        }
        due.is("about(5): its PARENT's last DAY is over", y.about(5), 0b001);
    }

    private static void handedDown() {
        due.begin("never more than 6 PAPERS, each below the one ahead of it");
        RangePapers x = Due.told("Pp00009p10019p20029p30039p40049");
        due.is("about(5)", x.about(5), 0b111111);
        for (int paper = 1; paper <= 5; paper++) {
            due.is("revoke(" + paper + ")", x.revoke(paper), 1);
            due.is("about(5) without " + paper, x.about(5), (1 << paper) - 1);
            due.is("about(4)", x.about(4), 1 << paper);
            x.undo();
        }
        due.is("revoke(6)", x.revoke(6), UNKNOWN);
        due.is("paper(6, 0)", x.paper(6, 0), UNKNOWN);
        RangePapers y = Due.told("Pp00009p00009p00009p00009p00009");
        for (int paper = 1; paper <= 5; paper++) {
            y.revoke(paper);
        }
        due.is("about(4): all but 0", y.about(4), 0b111110);
        due.is("about(5): 0 alone", y.about(5), 0b000001);
    }

    private static void mosts() {
        due.begin("MOST (its LENGTH .. 5)");
        for (int length = 0; length <= 5; length++) {
            for (int most = -1; most <= 7; most++) {
                RangePapers x = new RangePapers();
                boolean is = most >= length && most <= 5;
                due.is("allow() of " + length + " and " + most, x.allow(9, 0, 0, length, most), is ? 0 : BAD);
                due.is("about(1)", x.about(1), is ? 1 : 0);
                for (int told = 0; is && told <= 5; told++) {
                    int want = told < length ? NOT_KNOWN : told <= most ? RIGHT : WRONG;
                    due.is("state() of " + told + " by " + length + " and " + most, x.state(0, told, 0), want);
                }
            }
        }
    }

    private static void counts() {
        due.begin("a GRANT COUNTS, if it is BY HAND, or its PAPER STANDS, .. and its ORIGIN is not SET ASIDE");
        RangePapers x = Due.told("Pp01612g000000g111612g111613g121612g901612g110012");
        int[] all = {1, 1, 1, 1, 1, 0};
        countsAre("at first", x, all);
        x.setAside(1);
        countsAre("1 is SET ASIDE", x, new int[] {1, 0, 0, 1, 1, 0});
        x.setAside(0);
        countsAre("0, too: on PAPER 0 it does not, BY HAND it does", x, new int[] {0, 0, 0, 1, 1, 0});
        x.setAside(0);
        x.setAside(1);
        countsAre("they are no more", x, all);
        x.revoke(1);
        countsAre("1 is REVOKED", x, new int[] {1, 0, 0, 0, 1, 0});
        x.revoke(1);
        x.night();
        x.night();
        countsAre("its last DAY", x, all);
        x.night();
        countsAre("the DAY behind it", x, new int[] {1, 0, 0, 0, 1, 0});
    }

    private static void countsAre(String when, RangePapers x, int[] want) {
        for (int grant = 0; grant < want.length; grant++) {
            due.is(when + ": grant(" + grant + ", 5)", x.grant(grant, 5), want[grant]);
        }
        due.is(when + ": grant(" + want.length + ", 5)", x.grant(want.length, 5), UNKNOWN);
    }

    private static void states() {
        due.begin("RIGHT (2), WRONG (0), else NOT KNOWN (1)");
        RangePapers x = new RangePapers();
        x.allow(9, 2, 8, 2, 3);
        due.is("its own RANGE", x.state(8, 2, 2), RIGHT);
        due.is("MOST", x.state(12, 3, 2), RIGHT);
        due.is("1 longer than MOST", x.state(12, 4, 2), WRONG);
        due.is("1 shorter", x.state(0, 1, 2), NOT_KNOWN);
        due.is("ahead of it", x.state(7, 5, 2), NOT_KNOWN);
        due.is("its first PLACE", x.state(8, 5, 2), WRONG);
        due.is("its last PLACE", x.state(15, 5, 2), WRONG);
        due.is("behind it", x.state(16, 5, 2), NOT_KNOWN);
        due.is("the ORIGIN 1 less", x.state(8, 2, 1), WRONG);
        due.is("the ORIGIN 1 more", x.state(8, 2, 3), WRONG);
    }

    private static void severalGrants() {
        due.begin("RIGHT, if some GRANT ..; WRONG, if it is not RIGHT");
        for (int first = 0; first < 3; first++) {
            RangePapers x = new RangePapers();
            for (int i = 0; i < 3; i++) {
                int origin = (first + i) % 3;
                x.allow(9, origin, 0, origin, 2);
            }
            int[][] want = {{RIGHT, WRONG, WRONG}, {RIGHT, RIGHT, WRONG}, {RIGHT, RIGHT, RIGHT}, {WRONG, WRONG, WRONG}};
            for (int length = 0; length < 4; length++) {
                for (int origin = 0; origin < 3; origin++) {
                    due.is("state(0, " + length + ", " + origin + ") from " + first, x.state(0, length, origin),
                            want[length][origin]);
                }
            }
        }
        RangePapers y = new RangePapers();
        for (int i = 0; i < 8; i++) {
            due.is("state() with " + i, y.state(0, 3, 0), i == 0 ? NOT_KNOWN : WRONG);
            y.allow(9, i < 7 ? 1 : 0, 0, 0, i < 7 ? i % 6 : 3);
        }
        due.is("state() by the eighth alone", y.state(0, 3, 0), RIGHT);
        y.undo();
        y.allow(9, 0, 0, 0, 2);
        due.is("state() by none of eight", y.state(0, 3, 0), WRONG);
    }

    private static void fullGrants() {
        due.begin("GRANTS never more than 8; none at first");
        RangePapers x = new RangePapers();
        due.is("about(1)", x.about(1), 0);
        for (int i = 0; i < 8; i++) {
            due.is("allow()", x.allow(9, 0, i, 5, 5), i);
        }
        due.is("allow()", x.allow(9, 0, 8, 5, 5), FULL);
        due.is("keep(0)", x.keep(0), 0);
        due.is("tear(3)", x.tear(3), 7);
        due.is("allow()", x.allow(9, 1, 31, 5, 5), 7);
        due.is("grant(7, 2)", x.grant(7, 2), 31);
        due.is("allow()", x.allow(9, 0, 8, 5, 5), FULL);
        due.is("undo()", x.undo(), 9);
        due.is("about(1)", x.about(1), 7);
        due.is("undo()", x.undo(), 8);
        due.is("allow(): the torn one is there", x.allow(9, 0, 8, 5, 5), FULL);
        due.is("undo()", x.undo(), 7);
        due.is("allow(): the eighth is undone", x.allow(9, 0, 8, 5, 5), 7);
        due.is("again(0)", x.again(0), 0);
        due.is("allow(): eight were kept", x.allow(9, 0, 8, 5, 5), FULL);
        RangePapers y = Due.told("P" + "g900000".repeat(8));
        due.is("allow(): eight were told", y.allow(9, 0, 0, 0, 0), FULL);
        RangePapers z = Due.told("P" + "g900000".repeat(7));
        due.is("allow(): seven were told", z.allow(9, 0, 0, 0, 0), 7);
    }

    private static void fullRoutes() {
        due.begin("ROUTES never more than 6; none at first");
        RangePapers x = new RangePapers();
        due.is("about(2)", x.about(2), 0);
        for (int i = 0; i < 6; i++) {
            due.is("announce()", x.announce(i, 5, 0), i);
        }
        due.is("announce()", x.announce(8, 5, 0), FULL);
        due.is("keep(1)", x.keep(1), 6);
        due.is("withdraw(2)", x.withdraw(2), 5);
        due.is("announce()", x.announce(31, 5, 1), 5);
        due.is("route(5, 0)", x.route(5, 0), 31);
        due.is("announce()", x.announce(8, 5, 0), FULL);
        due.is("undo()", x.undo(), 7);
        due.is("about(2)", x.about(2), 5);
        due.is("undo()", x.undo(), 6);
        due.is("announce(): the withdrawn one is there", x.announce(8, 5, 0), FULL);
        due.is("undo()", x.undo(), 5);
        due.is("announce(): the sixth is undone", x.announce(8, 5, 0), 5);
        due.is("again(1)", x.again(1), 6);
        due.is("announce(): six were kept", x.announce(8, 5, 0), FULL);
        RangePapers y = Due.told("P" + "r0000".repeat(6));
        due.is("announce(): six were told", y.announce(0, 0, 0), FULL);
        RangePapers z = Due.told("P" + "r0000".repeat(5));
        due.is("announce(): five were told", z.announce(0, 0, 0), 5);
    }

    private static void alikeRoutes() {
        due.begin("ROUTES: two may be alike");
        RangePapers x = Due.told("Pr0821r0821");
        due.is("announce()", x.announce(8, 2, 1), 2);
        x.allow(9, 1, 8, 2, 2);
        due.is("about(7)", x.about(7), 0b111);
        due.is("goes(8, 2)", x.goes(8, 2), 0);
        due.is("withdraw(0)", x.withdraw(0), 2);
        due.is("goes(8, 2)", x.goes(8, 2), 0);
        due.same("those that are left", Run.books(x), "g 9 1 8 2 2 1 r 8 2 1 2 0 r 8 2 1 2 0 ");
    }

    private static void withdrawnNumbers() {
        due.begin("WITHDRAWN: a ROUTE goes; those behind it have numbers 1 less");
        for (int gone = 0; gone < 6; gone++) {
            RangePapers x = Due.told("Pr0000r0011r0432r0643r0854r3155");
            int[] starts = {0, 0, 4, 6, 8, 31};
            String was = Run.books(x);
            due.is("withdraw(" + gone + ")", x.withdraw(gone), 5);
            for (int route = 0; route < 5; route++) {
                int from = route < gone ? route : route + 1;
                due.is("route(" + route + ", 0) without " + gone, x.route(route, 0), starts[from]);
                due.is("route(" + route + ", 2) without " + gone, x.route(route, 2), from);
            }
            due.is("route(5, 0)", x.route(5, 0), UNKNOWN);
            due.is("undo()", x.undo(), 0);
            due.same("ROUTES when it is undone", Run.books(x), was);
        }
    }

    private static void tornNumbers() {
        due.begin("TORN: a GRANT goes likewise");
        int[] starts = {0, 0, 4, 6, 8, 31, 16, 24};
        int[] mosts = {0, 1, 4, 5, 4, 5, 3, 4};
        for (int gone = 0; gone < 8; gone++) {
            RangePapers x = Due.told("Pg900000g910011g920434g930645g940834g953155g001623g012424");
            String was = Run.books(x);
            due.is("tear(" + gone + ")", x.tear(gone), 7);
            for (int grant = 0; grant < 7; grant++) {
                int from = grant < gone ? grant : grant + 1;
                String what = "grant(" + grant + ", ..) without " + gone;
                due.is(what, x.grant(grant, 0), from < 6 ? 9 : 0);
                due.is(what, x.grant(grant, 1), from % 6);
                due.is(what, x.grant(grant, 2), starts[from]);
                due.is(what, x.grant(grant, 4), mosts[from]);
            }
            due.is("grant(7, 0)", x.grant(7, 0), UNKNOWN);
            due.is("undo()", x.undo(), 0);
            due.same("GRANTS when it is undone", Run.books(x), was);
        }
    }

    private static void turnedTwice() {
        due.begin("REVOKED, or is no more, if it was; SET ASIDE, or is no more");
        RangePapers x = Due.told("Pp00009p00009");
        int[] revoked = {0b010, 0b110, 0b100, 0b000, 0b010};
        int[] papers = {1, 2, 1, 2, 1};
        int[] aside = {0b000001, 0b100001, 0b100000, 0b000000, 0b000001};
        int[] origins = {0, 5, 0, 5, 0};
        for (int i = 0; i < 5; i++) {
            due.is("revoke(" + papers[i] + ")", x.revoke(papers[i]), revoked[i] >> papers[i] & 1);
            due.is("setAside(" + origins[i] + ")", x.setAside(origins[i]), aside[i] >> origins[i] & 1);
            due.is("about(4)", x.about(4), revoked[i]);
            due.is("about(6)", x.about(6), aside[i]);
        }
        for (int i = 4; i >= 0; i--) {
            due.is("about(4)", x.about(4), revoked[i]);
            due.is("about(6)", x.about(6), aside[i]);
            x.undo();
            x.undo();
        }
        due.is("about(4)", x.about(4), 0);
        due.is("about(6)", x.about(6), 0);
    }

    private static final String ACT_TREE = "Pp00019p10829g110012g220834g932423r0821r0832r2433";

    private static Call act(int kind) {
        switch (kind) {
            case 0: return new Call("announce", 4, 3, 5);
            case 1: return new Call("withdraw", 0);
            case 2: return new Call("allow", 9, 5, 4, 3, 3);
            case 3: return new Call("tear", 0);
            case 4: return new Call("revoke", 1);
            case 5: return new Call("night");
            default: return new Call("setAside", 1);
        }
    }

    private static void eachIsAnAct() {
        due.begin("ACTS (these seven): each that is not refused is an ACT");
        for (int kind = 0; kind < 7; kind++) {
            Run run = new Run().tell(ACT_TREE).call(act(kind));
            due.is("about(10) behind " + act(kind), run.made().about(10), 1);
            due.is("undo()", run.made().undo(), 0);
            due.same("all behind it and undo()", run.copy().call("undo").all(), new Run().tell(ACT_TREE).all());
        }
        Run none = new Run().tell(ACT_TREE).call("night").call("see", 0, 0, 0, 0).call("unsee").call("keep", 0)
                .call("seed", 5).call("drawn", 3).call("write", 'P').call("fault").call("wipe").call("judge", 1, 2000)
                .call("theft", 0, 0, 0).call("lost", 1).call("goes", 0, 0).call("state", 0, 0, 0).call("which", 0)
                .call("share", 0, 1).call("chance", 1, 1, 1);
        due.is("about(10): no other is one", none.made().about(10), 1);
        due.is("undo(): the night", none.made().undo(), 0);
    }

    private static void fourteenActs() {
        due.begin("never more than 14; if it has 14, the first one is forgotten ahead of the next");
        for (int first = 0; first < 7; first++) {
            String behindFirst = Run.now(new Run().tell(ACT_TREE).call(act(first)).call("keep", 0).call("again", 0).made());
            for (int last = 0; last < 7; last++) {
                String what = act(first) + " .. " + act(last);
                Run run = new Run().tell(ACT_TREE).call(act(first)).times(12, "setAside", 4);
                due.is("about(10) with 13, " + what, run.made().about(10), 13);
                run.call(act(last));
                due.is("about(10) with 14, " + what, run.made().about(10), 14);
                RangePapers x = run.made();
                undoAll(x, 14);
                due.same("all 14 undone, " + what, Run.now(x), Run.now(new Run().tell(ACT_TREE).made()));
                // One act more, ahead of the last: the first one is forgotten.
                run = new Run().tell(ACT_TREE).call(act(first)).times(13, "setAside", 4).call(act(last));
                due.is("about(10) with 15, " + what, run.made().about(10), 14);
                x = run.made();
                undoAll(x, 14);
                due.same("14 of 15 undone, " + what, Run.now(x), behindFirst);
            }
        }
        Run many = new Run().tell(ACT_TREE).times(100, "setAside", 4).call("night").times(13, "setAside", 3);
        RangePapers x = many.made();
        due.is("about(10) with 114", x.about(10), 14);
        undoAll(x, 14);
        due.is("about(3)", x.about(3), 0);
        due.is("about(6)", x.about(6), 0);
    }

    private static void undoAll(RangePapers x, int many) {
        for (int left = many - 1; left >= 0; left--) {
            due.is("undo()", x.undo(), left);
            due.is("about(10)", x.about(10), left);
        }
        due.is("undo()", x.undo(), LATE);
        due.is("about(10)", x.about(10), 0);
    }

    private static void undone() {
        due.begin("the last one can be undone");
        Run all = new Run().tell(ACT_TREE);
        String[] was = new String[14];
        for (int i = 0; i < 14; i++) {
            was[i] = Run.now(all.made());
            all.call(act(i % 7));
        }
        for (int i = 13; i >= 0; i--) {
            due.is("undo()", all.made().undo(), i);
            all.call("undo");
            due.same("as it was ahead of act " + i, Run.now(all.made()), was[i]);
        }
        due.is("undo()", all.made().undo(), LATE);
        RangePapers x = all.made();
        due.is("an act behind all that", x.night(), 1);
        due.is("about(10)", x.about(10), 1);
        due.begin("THE TEXT, SEEN, THE SEED are not undone or kept; SLOTS are not undone");
        Run run = Worlds.full();
        Run undone = run.copy().call("undo");
        due.is("about(11)", undone.made().about(11), 6);
        due.is("about(12)", undone.made().about(12), 99);
        due.is("seed(0)", undone.made().seed(0), -77);
        due.is("again(0)", undone.made().again(0), 2);
        due.is("again(1)", undone.made().again(1), 6);
        due.is("fault()", undone.made().fault(), 97);
    }
}
