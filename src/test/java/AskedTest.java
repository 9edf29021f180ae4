import java.math.BigInteger;

/** The second and third part of 'Terms' at their boundaries: what is asked, judged, seen, shared, drawn and kept. */
public final class AskedTest {
    private static final int UNKNOWN = RangePapers.UNKNOWN, LATE = RangePapers.LATE;
    private static final int FULL = RangePapers.FULL, NONE = RangePapers.NONE;
    private static final int WRONG = 0, NOT_KNOWN = 1, RIGHT = 2;

    private static final Due due = new Due();

    public static void main(String[] args) {
        nothingIsChanged();
        laws();
        goes();
        theft();
        theftByLaws();
        lost();
        maker();
        bare();
        judgedNumbers();
        judgedEach();
        judgedPlaces();
        seen();
        which();
        share();
        chance();
        chanceOfSix();
        drawn();
        drawnWraps();
        slots();
        slotsApart();
        due.end();
    }

    private static void nothingIsChanged() {
        due.begin("in what follows nothing is changed");
        Run[] worlds = {Worlds.blank(), Worlds.some(), Worlds.full()};
        Call[] calls = {new Call("state", 8, 3, 2), new Call("goes", 8, 0), new Call("goes", 8, 3),
            new Call("theft", 8, 0, 0), new Call("theft", 8, 2, 3), new Call("theft", 31, 5, 2), new Call("lost", 1),
            new Call("judge", 4, 1100200031008000L), new Call("judge", 4, 3000350080009000L), new Call("judge", 2, 80002001),
            new Call("which", 0), new Call("which", 7), new Call("share", 0, 1), new Call("share", 7, 0),
            new Call("chance", 1, 5, 1), new Call("chance", 6, 10, 0), new Call("fault"), new Call("about", 5),
            new Call("about", 9), new Call("paper", 1, 4), new Call("grant", 0, 5), new Call("route", 0, 3),
            new Call("route", 0, 4)};
        for (Run world : worlds) {
            String before = world.all();
            for (Call call : calls) {
                due.same("all behind " + call, world.copy().call(call).all(), before);
                RangePapers x = world.made();
                due.is(call + " twice", call.on(x), call.on(x));
            }
        }
    }

    private static void laws() {
        due.begin("a LAW lets ROUTES in: 0 all; 1 not WRONG; 2 RIGHT; 3 RIGHT ones, and NOT KNOWN ones apart");
        // NOT KNOWN 00/0, RIGHT 00/2, WRONG 00/3, NOT KNOWN 16/1.
        RangePapers x = Due.told("Pg910012r0000r0021r0032r1610");
        int[] places = {0, 3, 4, 7, 8, 15, 16, 31};
        int[][] want = {{2, 1, 1, 1}, {2, 1, 1, 1}, {1, 1, 1, 1}, {1, 1, 1, 1}, {0, 0, NONE, NONE}, {0, 0, NONE, NONE},
            {3, 3, NONE, 3}, {3, 3, NONE, 3}};
        goesAre(x, places, want);
        x.withdraw(1);
        due.begin("LAW 3 with no RIGHT one: those NOT KNOWN of, not those that are WRONG");
        goesAre(x, new int[] {0, 4, 16}, new int[][] {{1, 0, NONE, 0}, {0, 0, NONE, 0}, {2, 2, NONE, 2}});
        due.begin("LAW 3: any PLACE in common, the first or the last");
        RangePapers y = Due.told("Pg911555r1551r0010r1610");
        due.is("goes(0, 3): 00/1 has the PLACE 15", y.goes(0, 3), NONE);
        due.is("goes(16, 3): 16/1 has it not", y.goes(16, 3), 2);
        due.is("goes(15, 3)", y.goes(15, 3), 0);
        RangePapers z = Due.told("Pg911655r1651r0010r1610");
        due.is("goes(0, 3): 00/1 has not the PLACE 16", z.goes(0, 3), 1);
        due.is("goes(31, 3): 16/1 has it", z.goes(31, 3), NONE);
    }

    private static void goesAre(RangePapers x, int[] places, int[][] want) {
        for (int i = 0; i < places.length; i++) {
            for (int law = 0; law < 4; law++) {
                due.is("goes(" + places[i] + ", " + law + ")", x.goes(places[i], law), want[i][law]);
            }
        }
    }

    private static void goes() {
        due.begin("GOES: that of the greatest LENGTH (of like ones the least number); NONE");
        int[] lengthOf = {5, 4, 3, 3, 2, 2, 2, 2, 1, 1, 1, 1, 1, 1, 1, 1};
        RangePapers up = Due.told("Pr0000r0010r0020r0030r0040r0050");
        RangePapers down = Due.told("Pr0050r0040r0030r0020r0010r0000");
        for (int place = 0; place < 32; place++) {
            int length = place < 16 ? lengthOf[place] : 0;
            due.is("goes(" + place + ", 0), the longest last", up.goes(place, 0), length);
            due.is("goes(" + place + ", 0), the longest first", down.goes(place, 0), 5 - length);
            due.is("goes(" + place + ", 2): none is RIGHT", up.goes(place, 2), NONE);
        }
        RangePapers like = Due.told("Pr0000r0820r0821r0822r0823r0830");
        due.is("goes(8, 0)", like.goes(8, 0), 5);
        due.is("goes(12, 0): of four like ones", like.goes(12, 0), 1);
        like.withdraw(1);
        due.is("goes(12, 0): of three like ones", like.goes(12, 0), 1);
        due.is("route(1, 2)", like.route(1, 2), 1);
        like.allow(9, 3, 8, 2, 2);
        due.is("goes(12, 1): the only one let in", like.goes(12, 1), 3);
        due.is("goes(7, 0)", like.goes(7, 0), 0);
    }

    private static void theft() {
        due.begin("THEFT: the least LENGTH; as one more ROUTE (though there were 6); NONE");
        RangePapers none = new RangePapers();
        for (int place = 0; place < 32; place++) {
            due.is("theft(" + place + ", 5, 0) of no ROUTE", none.theft(place, 5, 0), 0);
            due.is("theft(" + place + ", 5, 2): not RIGHT", none.theft(place, 5, 2), NONE);
        }
        for (int length = 0; length <= 5; length++) {
            RangePapers one = Due.told("Pr00" + length + "0");
            int want = length < 5 ? length + 1 : NONE;
            due.is("theft(0, 0, 0) from LENGTH " + length, one.theft(0, 0, 0), want);
            due.is("theft(0, 1, 1) from LENGTH " + length, one.theft(0, 1, 1), want);
            due.is("theft(31, 1, 0) from LENGTH " + length, one.theft(31, 1, 0), length == 0 ? 1 : 0);
        }
        for (int last = 0; last <= 5; last++) {
            RangePapers six = Due.told("P" + "r0000".repeat(5) + "r00" + last + "5");
            due.is("about(2)", six.about(2), 6);
            int want = last < 5 ? last + 1 : NONE;
            due.is("theft(0, 0, 0) from six, LENGTH " + last, six.theft(0, 0, 0), want);
            due.is("theft(31, 5, 3) from six", six.theft(31, 5, 3), 1);
            due.is("about(2): there are 6 still", six.about(2), 6);
            due.is("announce()", six.announce(0, 0, 0), FULL);
            due.is("about(10)", six.about(10), 0);
        }
    }

    private static void theftByLaws() {
        due.begin("THEFT by a LAW");
        for (int most = 1; most <= 5; most++) {
            RangePapers x = new RangePapers();
            x.allow(9, 1, 0, 1, most);
            due.is("theft(0, 1, 2): RIGHT from 1 on", x.theft(0, 1, 2), 1);
            due.is("theft(0, 2, 1): 00/0 is NOT KNOWN", x.theft(0, 2, 1), 0);
            due.is("theft(0, 2, 2): never RIGHT", x.theft(0, 2, 2), NONE);
            due.is("theft(16, 1, 2): not WITHIN", x.theft(16, 1, 2), NONE);
            x.announce(0, 2, 1);
            boolean lets2 = most >= 2;
            due.is("theft(0, 1, 2) with MOST " + most, x.theft(0, 1, 2), !lets2 ? 1 : most >= 3 ? 3 : NONE);
            due.is("theft(0, 2, 1) with MOST " + most, x.theft(0, 2, 1), lets2 ? NONE : 0);
            due.is("theft(0, 2, 0) with MOST " + most, x.theft(0, 2, 0), 3);
            due.is("theft(8, 2, 3) with MOST " + most, x.theft(8, 2, 3), lets2 ? NONE : 0);
        }
        RangePapers y = Due.told("Pg910833r0831");
        due.is("theft(16, 0, 3): 00/0 is kept out, 16/1 is not", y.theft(16, 0, 3), 1);
        due.is("theft(0, 0, 3): 00/1 is kept out, 00/2 is not", y.theft(0, 0, 3), 2);
        due.is("theft(12, 0, 3): 08/2 is kept out, 12/3 is not", y.theft(12, 0, 3), 3);
        due.is("theft(8, 0, 3): shorter ones are kept out, longer ones WRONG", y.theft(8, 0, 3), NONE);
    }

    private static void lost() {
        due.begin("LOST with a PAPER (but 0): which ROUTES are RIGHT, but would not be");
        // ROUTES 0 .. 3 are RIGHT by a GRANT on 1, on 2 (below 1), BY HAND, on 3; 4 and 5 are WRONG.
        RangePapers x = Due.told("Pp00019p10029p01619g100011g200022g311611g901611r0010r0020r1610r1611r0021");
        x.announce(0, 3, 0);
        due.is("about(7)", x.about(7), 0b001111);
        due.is("about(8)", x.about(8), 0b110000);
        due.is("lost(1): those below it, too", x.lost(1), 0b000011);
        due.is("lost(2)", x.lost(2), 0b000010);
        due.is("lost(3): not the one BY HAND", x.lost(3), 0b001000);
        x.setAside(1);
        due.is("lost(3): not RIGHT now", x.lost(3), 0);
        x.undo();
        x.allow(3, 0, 16, 1, 1);
        x.tear(3);
        due.is("lost(3): on it alone now", x.lost(3), 0b001100);
        x.revoke(2);
        due.is("lost(2): REVOKED already", x.lost(2), 0);
        due.is("lost(1)", x.lost(1), 0b000001);
        RangePapers y = Due.told("Pp00000g100000r0000");
        due.is("lost(1) on its last DAY", y.lost(1), 1);
        y.night();
        due.is("lost(1) behind it", y.lost(1), 0);
        RangePapers six = Due.told("Pp00009g100000" + "r0000".repeat(6));
        due.is("lost(1) of six", six.lost(1), 0b111111);
        due.begin("LOST: RIGHT by either of two PAPERS");
        RangePapers two = Due.told("Pp00009p00009g100000g200000r0000");
        due.is("lost(1)", two.lost(1), 0);
        due.is("lost(2)", two.lost(2), 0);
        two.revoke(1);
        due.is("lost(2): the other is REVOKED", two.lost(2), 1);
    }

    private static void maker() {
        due.begin("MAKER: the least RANGE (the greatest LENGTH, of like ones the least number) that STANDS");
        RangePapers x = Due.told("Pp00009p00019p20037p20039p10059r0050r0030r0020r0010r0000");
        int[] want = {5, 3, 2, 2, 0};
        for (int route = 0; route < 5; route++) {
            due.is("route(" + route + ", 4)", x.route(route, 4), want[route]);
        }
        x.revoke(3);
        due.is("route(1, 4): the like one behind it", x.route(1, 4), 4);
        x.revoke(4);
        due.is("route(1, 4): neither", x.route(1, 4), 2);
        x.revoke(2);
        due.is("route(1, 4): all of 00/0 alike", x.route(1, 4), 0);
        due.is("route(0, 4): 5 is on 1", x.route(0, 4), 5);
        x.revoke(1);
        due.is("route(0, 4): 1 does not STAND", x.route(0, 4), 0);
        RangePapers y = Due.told("Pp00039p00037p00019r0030");
        due.is("route(0, 4): of like ones the least", y.route(0, 4), 1);
        RangePapers z = Due.told("Pp00037p00039r0030");
        for (int day = 0; day <= 9; day++) {
            due.is("route(0, 4) on " + day, z.route(0, 4), day <= 7 ? 1 : 2);
            z.night();
        }
    }

    private static void bare() {
        due.begin("BARE: PLACES in the RANGE of no GRANT that COUNTS");
        RangePapers x = Due.told("Pp01612");
        due.is("about(9): no GRANT", x.about(9), 32);
        x.allow(9, 0, 31, 5, 5);
        due.is("about(9): the last PLACE", x.about(9), 31);
        x.allow(9, 1, 31, 5, 5);
        due.is("about(9): the same once more", x.about(9), 31);
        x.allow(9, 1, 24, 2, 5);
        due.is("about(9): a wider one", x.about(9), 24);
        x.allow(0, 2, 0, 1, 1);
        due.is("about(9): another half", x.about(9), 8);
        x.allow(1, 3, 16, 1, 1);
        due.is("about(9): none", x.about(9), 0);
        x.setAside(3);
        due.is("about(9): SET ASIDE", x.about(9), 8);
        x.setAside(1);
        due.is("about(9): BY HAND it COUNTS", x.about(9), 8);
        x.setAside(2);
        due.is("about(9): not on PAPER 0", x.about(9), 24);
        x.allow(9, 5, 0, 0, 0);
        due.is("about(9): all at once", x.about(9), 0);
    }

    private static void judgedNumbers() {
        due.begin("JUDGED: the first and last number of each doing");
        long[] can = {1100, 1500, 3000, 3500, 4000, 4501, 5000, 5031, 5300, 5331, 6001, 6501, 7001, 7701, 8000, 8500};
        long[] not = {0, 1, 999, 1000, 1600, 1900, 2000, 3600, 3900, 4001, 4002, 4003, 4009, 4502, 4600, 4601, 4602, 5032,
            5099, 5332, 5400, 5431, 5900, 6000, 6002, 6009, 6500, 6600, 6601, 6900, 6901, 7000, 7002, 7700, 7800, 7801,
            7900, 7901, 8600, 8900, 9000, 9999};
        // Six PAPERS, eight GRANTS, six ROUTES that are WRONG but the last, which have not the PLACES 0 and 31; DAY 9.
        Run run = new Run().tell("P" + "p00009".repeat(5) + "g910822".repeat(8)).times(5, "announce", 8, 2, 0)
                .call("announce", 16, 2, 0).times(9, "night");
        for (long row : can) {
            due.is("judge(1, " + row + ")", run.made().judge(1, row), NONE);
        }
        for (long row : not) {
            due.is("judge(1, " + row + ")", run.made().judge(1, row), 0);
        }
        due.is("judge(1, 2000) on DAY 8", run.copy().call("undo").made().judge(1, 2000), NONE);
        due.begin("JUDGED: 4, each state");
        RangePapers x = Due.told("Pg910022r0822r0021r1622r0022r0022");
        int[] states = {NOT_KNOWN, RIGHT, NOT_KNOWN, WRONG, WRONG};
        for (int route = 0; route < 6; route++) {
            for (int s = 0; s < 10; s++) {
                boolean is = route < 5 && states[route] == s;
                due.is("judge() of state " + s + " of " + route, x.judge(1, 4000 + 100 * route + s), is ? NONE : 0);
            }
        }
    }

    /** Every doing that four figures can tell, held against the document's words written once more. */
    private static void judgedEach() {
        due.begin("JUDGED: every doing");
        Run[] worlds = {Worlds.blank(), Worlds.some(), Worlds.full()};
        for (Run world : worlds) {
            RangePapers x = null;
            Oracle oracle = world.madeOn(new Oracle());
            for (int row = 0; row < 10000; row++) {
                x = row % 100 == 0 ? world.made() : x;
                due.is("judge(1, " + row + ")", x.judge(1, row), oracle.judge(1, row));
                due.is("judge(2, " + row + " behind itself)", x.judge(2, row * 10001L), oracle.judge(2, row * 10001L));
            }
        }
    }

    private static void judgedPlaces() {
        due.begin("JUDGED: n doings (1 .. 4), the place (from 0) of the first that can not be");
        RangePapers x = new RangePapers();
        long[] night = {0, 2000, 20002000, 200020002000L, 2000200020002000L};
        long below = 1;
        for (int n = 1; n <= 4; n++) {
            due.is("judge(" + n + ", nights)", x.judge(n, night[n]), NONE);
            long unit = 1;
            for (int place = n - 1; place >= 0; place--) {
                due.is("judge(): the doing " + place + " of " + n, x.judge(n, night[n] - 1000 * unit), place);
                // Behind the first one that can not be no other is looked at.
                due.is("judge(): from " + place + " on", x.judge(n, night[n] / unit * unit - 1000 * unit), place);
                unit *= 10000;
            }
            below *= 10000;
            due.is("judge(): the greatest row of " + n, x.judge(n, below - 1), 0);
            due.is("judge(): one more", x.judge(n, below), RangePapers.BAD);
        }
        due.is("judge(4, nights of three): the first is 0000", x.judge(4, night[3]), 0);
        due.begin("JUDGED: what is ahead of it being done");
        RangePapers y = Due.told("Pp00002p10009g200005r0000");
        due.is("three nights, then 1 does not STAND", y.judge(4, 2000200020006100L), NONE);
        due.is("three nights, then 2 does not STAND", y.judge(4, 2000200020006200L), NONE);
        due.is("three nights, then GRANT 0 does not COUNT", y.judge(4, 2000200020007000L), NONE);
        due.is("three nights, then ROUTE 0 is NOT KNOWN", y.judge(4, 2000200020004001L), NONE);
        due.is("two nights, then it is RIGHT", y.judge(3, 200020004002L), NONE);
        due.is("three nights, then 0 GOES by none (LAW 2)", y.judge(4, 2000200020005200L), NONE);
        due.is("two nights, then it does not", y.judge(3, 200020005200L), 2);
        due.is("WITHDRAWN, then none is there", y.judge(2, 80008000), 1);
        due.is("WITHDRAWN, then its state is asked", y.judge(2, 80004002), 1);
        due.is("WITHDRAWN, then 31 GOES by none", y.judge(2, 80005031), NONE);
        due.is("judged anew each time: it was not WITHDRAWN", y.judge(1, 4002), NONE);
        due.is("REVOKED, then it does not STAND, nor does 2", y.judge(3, 110061006200L), NONE);
        due.is("REVOKED, then it is no more", y.judge(4, 1100610011006101L), NONE);
        due.is("2 REVOKED, then 1 STANDS", y.judge(3, 120061016200L), NONE);
        due.is("2 REVOKED, then 2 STANDS", y.judge(2, 12006201), 1);
        due.is("SET ASIDE, then GRANT 0 does not COUNT", y.judge(2, 30007000), NONE);
        due.is("SET ASIDE, then it is no more", y.judge(4, 3000700030007001L), NONE);
        due.is("another SET ASIDE, then it COUNTS", y.judge(4, 3100350070014002L), NONE);
        y.revoke(2);
        y.setAside(0);
        due.is("it was REVOKED and SET ASIDE: both are no more", y.judge(4, 1200620130007001L), NONE);
        due.is("SET ASIDE alone is no more", y.judge(2, 30007001), 1);
        due.is("about(4)", y.about(4), 0b100);
        due.is("about(6)", y.about(6), 0b1);
    }

    private static void seen() {
        due.begin("SEEN: never more than 6, none at first");
        RangePapers x = new RangePapers();
        due.is("about(11)", x.about(11), 0);
        for (int i = 1; i <= 6; i++) {
            due.is("see()", x.see(0, 0, 0, 1), i);
            due.is("about(11)", x.about(11), i);
        }
        due.is("see()", x.see(0, 0, 0, 1), FULL);
        due.is("unsee()", x.unsee(), 6);
        due.is("about(11)", x.about(11), 0);
        due.is("unsee()", x.unsee(), 0);
        due.is("see()", x.see(0, 0, 0, 1), 1);
        due.begin("WHICH: all that is SEEN is so, the first and the last of six");
        for (int odd = 0; odd < 6; odd++) {
            RangePapers y = Due.told("Pg900000");
            for (int i = 0; i < 6; i++) {
                y.see(0, i == odd ? 3 : 0, 0, RIGHT);
            }
            due.is("which(0): the one of LENGTH 3 is told as " + odd, y.which(0), 0b111000);
            y.unsee();
            for (int i = 0; i < 6; i++) {
                y.see(0, 0, i == odd ? 1 : 0, RIGHT);
            }
            due.is("which(0): one can not be, told as " + odd, y.which(0), 0);
        }
    }

    private static void which() {
        due.begin("WHICH of a GRANT: MOST being an unknown one (its LENGTH .. 5)");
        for (int length = 0; length <= 5; length++) {
            RangePapers x = new RangePapers();
            x.allow(9, 0, 0, length, 5);
            int all = 0b111111 & -1 << length;
            due.is("which(0) of LENGTH " + length, x.which(0), all);
            for (int told = length; told <= 5; told++) {
                x.see(0, told, 0, RIGHT);
                due.is("which(0): RIGHT at " + told, x.which(0), 0b111111 & -1 << told);
                x.unsee();
                x.see(0, told, 0, WRONG);
                due.is("which(0): WRONG at " + told, x.which(0), all & (1 << told) - 1);
                x.unsee();
                x.see(0, told, 0, NOT_KNOWN);
                due.is("which(0): NOT KNOWN at " + told, x.which(0), 0);
                x.unsee();
                x.see(0, told, 1, WRONG);
                due.is("which(0): WRONG by another at " + told, x.which(0), all);
                x.unsee();
            }
            if (length > 0) {
                x.see(0, length - 1, 0, NOT_KNOWN);
                due.is("which(0): NOT KNOWN, 1 shorter", x.which(0), all);
            }
            due.is("grant(0, 4): it is as it was", x.grant(0, 4), 5);
        }
        due.begin("SEEN: all else as it is when that is asked (not when it was told)");
        RangePapers y = Due.told("Pp00002g000022g100022");
        y.see(0, 4, 0, RIGHT);
        due.is("which(0)", y.which(0), 0b110000);
        due.is("which(1)", y.which(1), 0b110000);
        y.allow(9, 0, 0, 3, 4);
        due.is("which(0): RIGHT by GRANT 2", y.which(0), 0b111100);
        y.tear(2);
        y.setAside(0);
        due.is("which(0): SET ASIDE now", y.which(0), 0);
        y.setAside(0);
        y.revoke(1);
        due.is("which(1): its PAPER is REVOKED now", y.which(1), 0);
        due.is("which(0)", y.which(0), 0b110000);
        y.revoke(1);
        y.night();
        y.night();
        due.is("which(1) on the last DAY", y.which(1), 0b110000);
        y.night();
        due.is("which(1) behind it", y.which(1), 0);
        due.is("which(2)", y.which(2), UNKNOWN);
    }

    private static void fraction(String name, RangePapers x, int a, int b, int above, int below) {
        Call upper = b < 0 ? new Call(name, a, 1) : new Call(name, a, b, 1);
        Call lower = b < 0 ? new Call(name, a, 0) : new Call(name, a, b, 0);
        due.is(upper.toString(), upper.on(x), above);
        due.is(lower.toString(), lower.on(x), below);
    }

    private static void share() {
        due.begin("SHARE of a GRANT: a FRACTION, in least terms");
        for (int grants = 1; grants <= 8; grants++) {
            RangePapers x = Due.told("P" + "g900000".repeat(grants));
            fraction("share", x, grants - 1, -1, 0, 1);
            for (int routes = 1; routes <= 6; routes++) {
                x.announce(0, 0, 0);
                int common = BigInteger.valueOf(routes).gcd(BigInteger.valueOf(grants)).intValue();
                fraction("share", x, 0, -1, routes / common, grants / common);
                fraction("share", x, grants - 1, -1, routes / common, grants / common);
            }
            due.is("share(" + grants + ", true)", x.share(grants, true), UNKNOWN);
        }
        // ROUTES that 3, 5, 7 and 8 of the GRANTS make RIGHT.
        RangePapers y = Due.told("P" + "g900005".repeat(3) + "g900015".repeat(2) + "g900025".repeat(2) + "g900035"
                + "r0000r0010r0020r0030");
        int[][] want = {{673, 840}, {673, 840}, {673, 840}, {131, 280}, {131, 280}, {15, 56}, {15, 56}, {1, 8}};
        for (int grant = 0; grant < 8; grant++) {
            fraction("share", y, grant, -1, want[grant][0], want[grant][1]);
        }
        due.begin("SHARE of GRANTS that do not COUNT, or make nothing RIGHT");
        RangePapers z = Due.told("Pp01619g100000g000000g910000g000012r0000r0010");
        fraction("share", z, 0, -1, 0, 1);
        fraction("share", z, 1, -1, 1, 1);
        fraction("share", z, 2, -1, 0, 1);
        fraction("share", z, 3, -1, 1, 1);
        z.setAside(0);
        fraction("share", z, 1, -1, 0, 1);
    }

    private static void chance() {
        due.begin("CHANCE: REVOKED by x tenths (0 .. 10), v (0 .. 6) ROUTES or more are RIGHT");
        RangePapers none = new RangePapers();
        for (int v = 0; v <= 6; v++) {
            for (int x = 0; x <= 10; x++) {
                fraction("chance", none, v, x, v == 0 ? 1 : 0, 1);
            }
        }
        RangePapers sure = Due.told("Pp00009g900000" + "r0000".repeat(6));
        RangePapers one = Due.told("Pp00009g100000" + "r0000".repeat(6));
        int[][] kept = {{1, 1}, {9, 10}, {4, 5}, {7, 10}, {3, 5}, {1, 2}, {2, 5}, {3, 10}, {1, 5}, {1, 10}, {0, 1}};
        for (int x = 0; x <= 10; x++) {
            fraction("chance", sure, 6, x, 1, 1);
            fraction("chance", one, 0, x, 1, 1);
            fraction("chance", one, 1, x, kept[x][0], kept[x][1]);
            fraction("chance", one, 6, x, kept[x][0], kept[x][1]);
        }
        one.withdraw(0);
        fraction("chance", one, 5, 1, 9, 10);
        fraction("chance", one, 6, 1, 0, 1);
        fraction("chance", one, 6, 0, 0, 1);
        due.begin("CHANCE: whether it is REVOKED now, or not");
        one.revoke(1);
        fraction("chance", one, 5, 1, 9, 10);
        fraction("chance", one, 5, 0, 1, 1);
        fraction("chance", one, 5, 10, 0, 1);
        due.is("about(4)", one.about(4), 0b10);
        due.begin("CHANCE: five PAPERS, each below the one ahead of it");
        RangePapers deep = Due.told("Pp00009p10009p20009p30009p40009g500000r0000");
        int[][] all = {{1, 1}, {59049, 100000}, {1024, 3125}, {16807, 100000}, {243, 3125}, {1, 32}, {32, 3125},
            {243, 100000}, {1, 3125}, {1, 100000}, {0, 1}};
        for (int x = 0; x <= 10; x++) {
            fraction("chance", deep, 1, x, all[x][0], all[x][1]);
        }
    }

    private static void chanceOfSix() {
        due.begin("CHANCE: five PAPERS side by side, a ROUTE on each, and one BY HAND");
        RangePapers x = Due.told("Pp00039p00439p00839p01239p01639g100033g200433g300833g401233g501633r0030r0430r0830r1230r1630");
        x.allow(9, 5, 31, 5, 5);
        x.announce(31, 5, 5);
        int[][] want = {{1, 1}, {1, 1}, {99757, 100000}, {48461, 50000}, {20923, 25000}, {26411, 50000}, {16807, 100000}};
        for (int v = 0; v <= 6; v++) {
            fraction("chance", x, v, 3, want[v][0], want[v][1]);
        }
        for (int paper = 1; paper <= 5; paper++) {
            x.revoke(paper);
        }
        for (int v = 0; v <= 6; v++) {
            fraction("chance", x, v, 3, want[v][0], want[v][1]);
        }
    }

    /** THE SEED's next value by numbers that have no end, cut to 64 bits. */
    private static long next(long seed) {
        return BigInteger.valueOf(seed).multiply(new BigInteger("6364136223846793005"))
                .add(new BigInteger("1442695040888963407")).longValue();
    }

    private static void drawn() {
        due.begin("DRAWN: m times (1 .. 40)");
        String told = "Pp00019g100014g910823g921612g901624g932425g040011";
        for (int m = 1; m <= 40; m++) {
            RangePapers x = Due.told(told);
            RangePapers each = Due.told(told);
            x.seed(m * 1000003L);
            each.seed(m * 1000003L);
            int sum = 0;
            long seed = m * 1000003L;
            for (int i = 0; i < m; i++) {
                sum += each.drawn(1);
                seed = next(seed);
            }
            due.is("drawn(" + m + ")", x.drawn(m), sum);
            due.is("seed(0) behind drawn(" + m + ")", x.seed(0), seed);
        }
        due.begin("DRAWN: nothing changes but THE SEED");
        for (Run world : new Run[] {Worlds.blank(), Worlds.some(), Worlds.full()}) {
            long was = world.made().seed(0);
            due.same("all behind drawn()", world.copy().call("drawn", 40).call("seed", was).all(), world.all());
        }
    }

    private static void drawnWraps() {
        due.begin("DRAWN: 64 bits, wrapping");
        long[] seeds = {0, 1, -1, 2, Long.MAX_VALUE, Long.MIN_VALUE, 1L << 32, 1L << 33, -1L << 33, 123456789123456789L};
        for (long first : seeds) {
            RangePapers x = Due.told("Pg901612g910822g920012g932422g942423g951623g920823g930023");
            x.seed(first);
            long seed = first;
            for (int i = 0; i < 60; i++) {
                seed = next(seed);
                int v = BigInteger.valueOf(seed).shiftRight(33).mod(BigInteger.ONE.shiftLeft(31)).intValue();
                int[] sizes = {32, 16, 8, 4, 2, 1};
                int place = v / 6 % 32;
                int start = place - place % sizes[v % 6];
                due.is("drawn(1) " + i + " from " + first, x.drawn(1), x.state(start, v % 6, v / 192 % 6));
            }
            due.is("seed(0) from " + first, x.seed(0), seed);
        }
        due.begin("THE SEED, a long; 0 at first");
        RangePapers y = new RangePapers();
        due.is("seed(greatest)", y.seed(Long.MAX_VALUE), 0);
        due.is("seed(least)", y.seed(Long.MIN_VALUE), Long.MAX_VALUE);
        due.is("seed(1 << 32)", y.seed(1L << 32), Long.MIN_VALUE);
        due.is("seed(0)", y.seed(0), 1L << 32);
        due.is("drawn(1)", y.drawn(1), 1);
        due.is("seed(0)", y.seed(0), 1442695040888963407L);
    }

    private static void slots() {
        due.begin("SLOTS 0 .. 1 keep GRANTS, ROUTES, what is REVOKED, SET ASIDE, THE DAY");
        for (int slot = 0; slot < 2; slot++) {
            Run kept = Worlds.some().call("keep", slot);
            String was = Run.now(kept.copy().call("again", slot).made());
            Run changed = kept.copy().call("revoke", 1).call("revoke", 3).call("setAside", 0).call("setAside", 5)
                    .times(8, "night").call("tear", 4).call("allow", 9, 2, 0, 0, 0).call("withdraw", 0)
                    .call("announce", 0, 0, 0).call("announce", 31, 5, 5).call("announce", 31, 5, 5);
            due.is("about(2)", changed.made().about(2), 6);
            due.is("again(" + slot + ")", changed.made().again(slot), 5);
            due.same("all is as it was kept", Run.now(changed.copy().call("again", slot).made()), was);
            Run twice = changed.copy().call("again", slot).call("revoke", 1).call("tear", 0).call("withdraw", 4).call("night");
            due.same("once more", Run.now(twice.copy().call("again", slot).made()), was);
            due.is("no ACTS when one goes on", changed.copy().call("again", slot).made().undo(), LATE);
            due.is("ACTS stay when it is kept", kept.made().about(10), 6);
            due.same("keep() changes nothing that is now", Run.now(kept.made()), Run.now(Worlds.some().made()));
        }
        due.begin("SLOTS: nothing, and as much as there may be");
        RangePapers x = new RangePapers();
        due.is("keep(0)", x.keep(0), 0);
        x.announce(0, 0, 0);
        x.allow(9, 0, 0, 0, 0);
        x.night();
        x.setAside(5);
        due.is("keep(1)", x.keep(1), 1);
        due.is("again(0)", x.again(0), 0);
        int[] none = {1, 0, 0, 0, 0, 1, 0, 0, 0, 32, 0};
        for (int what = 0; what < none.length; what++) {
            due.is("about(" + what + ")", x.about(what), none[what]);
        }
        due.is("again(1)", x.again(1), 1);
        int[] some = {1, 1, 1, 1, 0, 1, 0b100000, 1, 0, 0, 0};
        for (int what = 0; what < some.length; what++) {
            due.is("about(" + what + ")", x.about(what), some[what]);
        }
        Run full = Worlds.full().call("keep", 0);
        due.is("again(0)", full.made().again(0), 6);
        due.same("GRANTS and ROUTES", Run.books(full.copy().call("again", 1).call("again", 0).made()),
                Run.books(Worlds.full().made()));
    }

    private static void slotsApart() {
        due.begin("SLOTS are two, each by itself");
        RangePapers x = new RangePapers();
        due.is("keep(1)", x.keep(1), 0);
        due.is("again(0): none were kept", x.again(0), LATE);
        x.announce(0, 0, 0);
        due.is("about(10)", x.about(10), 1);
        due.is("keep(0)", x.keep(0), 1);
        x.announce(0, 0, 0);
        due.is("again(1)", x.again(1), 0);
        due.is("again(0)", x.again(0), 1);
        x.announce(0, 0, 0);
        due.is("keep(0): over what was kept", x.keep(0), 2);
        due.is("undo()", x.undo(), 0);
        due.is("again(0): undone, but kept", x.again(0), 2);
        due.is("again(1)", x.again(1), 0);
        due.is("again(2)", x.again(2), UNKNOWN);
        due.is("about(2)", x.about(2), 0);
    }
}
