/** The fourth part of 'Terms', MORE PLAINLY, sentence by sentence, and the last words of the fifth. */
public final class PlainlyTest {
    private static final int LATE = RangePapers.LATE, NONE = RangePapers.NONE;
    private static final int WRONG = 0, NOT_KNOWN = 1, RIGHT = 2;

    private static final Due due = new Due();

    public static void main(String[] args) {
        notWithinItsParents();
        grantsThatDoNotCount();
        byHandThoughSetAside();
        placesInCommon();
        theftWithOneMore();
        sharesOfThoseThatCome();
        onPaperZeroSetAside();
        makerIsZeroAtLeast();
        lostWithARevokedOne();
        chanceAsTheyAre();
        keptOutAllTheSame();
        notUndoneOrKept();
        lateTree();
        fractionsAndSets();
        due.end();
    }

    private static void notWithinItsParents() {
        due.begin("a PAPER whose RANGE is not WITHIN its PARENT's never STANDS, nor do those handed down from it");
        // Beside its PARENT's, wider than it, and two handed down from one of these, which are WITHIN theirs.
        RangePapers x = Due.told("Pp00029p10829p10019p30019p40059");
        for (int day = 0; day <= 9; day++) {
            due.is("about(5) on " + day, x.about(5), 0b000011);
            x.night();
        }
        for (int paper = 2; paper <= 5; paper++) {
            x.revoke(paper);
            x.revoke(paper);
            due.is("about(5): " + paper + " was REVOKED and is no more", x.about(5), 0b000011);
            due.is("lost(" + paper + ")", x.lost(paper), 0);
        }
        due.is("allow()", x.allow(5, 0, 0, 5, 5), 0);
        x.announce(0, 5, 0);
        due.is("grant(0, 5)", x.grant(0, 5), 0);
        due.is("route(0, 4)", x.route(0, 4), 1);
        due.is("chance(1, 0, true)", x.chance(1, 0, true), 0);
        due.is("judge() of 6", x.judge(2, 62006500), NONE);
    }

    private static void grantsThatDoNotCount() {
        due.begin("a GRANT may be told on a PAPER that does not STAND, or of a RANGE not WITHIN: it just does not COUNT");
        RangePapers x = Due.told("Pp00029p10829p00020g200822g100822g300033r0010r0030");
        due.is("about(1): all are there", x.about(1), 3);
        x.night();
        due.is("allow(): PAPER 2 never STANDS", x.allow(2, 0, 8, 2, 2), 3);
        due.is("allow(): not WITHIN", x.allow(1, 0, 0, 1, 5), 4);
        due.is("allow(): PAPER 3 has lapsed", x.allow(3, 0, 0, 3, 5), 5);
        due.is("revoke(1)", x.revoke(1), 1);
        due.is("allow(): PAPER 1 is REVOKED", x.allow(1, 0, 0, 3, 5), 6);
        due.is("allow(): its ORIGIN will be SET ASIDE", x.allow(0, 1, 0, 3, 5), 7);
        x.setAside(1);
        for (int grant = 0; grant < 8; grant++) {
            due.is("grant(" + grant + ", 5)", x.grant(grant, 5), 0);
            due.is("share(" + grant + ", true)", x.share(grant, true), 0);
        }
        due.is("about(9)", x.about(9), 32);
        due.is("about(7)", x.about(7), 0);
        due.is("about(8): none makes a ROUTE WRONG", x.about(8), 0);
        x.undo();
        due.is("grant(7, 5): no more SET ASIDE", x.grant(7, 5), 1);
        x.revoke(1);
        due.is("grant(6, 5): no more REVOKED", x.grant(6, 5), 1);
        due.is("about(7)", x.about(7), 0b10);
    }

    private static void byHandThoughSetAside() {
        due.begin("BY HAND: it COUNTS though its ORIGIN is SET ASIDE");
        for (int origin = 0; origin <= 5; origin++) {
            RangePapers x = new RangePapers();
            x.allow(9, origin, 0, 1, 2);
            x.announce(0, 2, origin);
            x.setAside(origin);
            due.is("grant(0, 5)", x.grant(0, 5), 1);
            due.is("route(0, 3)", x.route(0, 3), RIGHT);
            due.is("state()", x.state(0, 3, origin), WRONG);
            due.is("share(0, true)", x.share(0, true), 1);
            due.is("chance(1, 10, true)", x.chance(1, 10, true), 1);
            due.is("judge(): SET ASIDE or not", x.judge(3, 700130007001L + 1000000L * origin), NONE);
            x.night();
            due.is("grant(0, 5) on another DAY", x.grant(0, 5), 1);
        }
    }

    private static void placesInCommon() {
        due.begin("by LAW 3 a RIGHT one has a PLACE in common with a RANGE, if one of the two is WITHIN the other");
        int[] starts = {8, 8, 8, 0, 0, 15};
        int[] lengths = {3, 2, 4, 1, 0, 5};
        // The RIGHT ROUTE is 08/3; of these RANGES 15/5 has no PLACE of it.
        for (int i = 0; i < 6; i++) {
            RangePapers x = new RangePapers();
            x.announce(8, 3, 1);
            x.announce(starts[i], lengths[i], 0);
            x.allow(9, 1, 8, 3, 3);
            boolean isWrong = lengths[i] >= 3 && starts[i] == 8;
            boolean keptOut = lengths[i] < 3;
            due.is("route(1, 3) of " + lengths[i], x.route(1, 3), isWrong ? WRONG : NOT_KNOWN);
            due.is("goes(15, 3) of " + lengths[i], x.goes(15, 3), keptOut || isWrong ? NONE : 1);
            due.is("goes(8, 3) of " + lengths[i], x.goes(8, 3), 0);
        }
    }

    private static void theftWithOneMore() {
        due.begin("in THEFT states of ROUTES are as they are with the one more");
        // The thief is RIGHT: it keeps out 00/0 and is let in itself.
        RangePapers x = Due.told("Pg911613r0000");
        due.is("theft(16, 1, 3)", x.theft(16, 1, 3), 1);
        due.is("theft(16, 0, 3): WRONG from 1 on, of 0 not the first", x.theft(16, 0, 3), NONE);
        // A thief that is NOT KNOWN is kept out by the RIGHT ROUTE that is there.
        RangePapers y = Due.told("Pg911623r1621");
        due.is("theft(31, 0, 3)", y.theft(31, 0, 3), 2);
        due.is("theft(31, 0, 1)", y.theft(31, 0, 1), 0);
        y.setAside(1);
        due.is("theft(31, 0, 3): BY HAND it COUNTS", y.theft(31, 0, 3), 2);
        y.tear(0);
        due.is("theft(31, 0, 3): nothing is RIGHT", y.theft(31, 0, 3), 0);
        due.is("theft(16, 0, 3)", y.theft(16, 0, 3), 3);
    }

    private static void sharesOfThoseThatCome() {
        due.begin("SHARE: GRANTS that have not come are not there");
        // Of the two that make it RIGHT each comes first as often, whatever the six others do.
        RangePapers x = Due.told("Pg900000g910000g920000g930000g940000g950000g910015g900000r0000");
        int[] above = {1, 0, 0, 0, 0, 0, 0, 1};
        for (int grant = 0; grant < 8; grant++) {
            due.is("share(" + grant + ", true)", x.share(grant, true), above[grant]);
            due.is("share(" + grant + ", false)", x.share(grant, false), above[grant] == 1 ? 2 : 1);
        }
    }

    private static void onPaperZeroSetAside() {
        due.begin("a GRANT on PAPER 0 does not COUNT while its ORIGIN is SET ASIDE");
        for (int origin = 0; origin <= 5; origin++) {
            RangePapers x = new RangePapers();
            x.allow(0, origin, 0, 0, 5);
            due.is("grant(0, 5)", x.grant(0, 5), 1);
            x.setAside((origin + 1) % 6);
            due.is("grant(0, 5): another is SET ASIDE", x.grant(0, 5), 1);
            x.setAside(origin);
            due.is("grant(0, 5): SET ASIDE", x.grant(0, 5), 0);
            due.is("state()", x.state(0, 0, origin), NOT_KNOWN);
            x.setAside(origin);
            due.is("grant(0, 5): it is no more", x.grant(0, 5), 1);
        }
    }

    private static void makerIsZeroAtLeast() {
        due.begin("MAKER of any ROUTE is PAPER 0 at least");
        RangePapers x = Due.told("Pp00010r0000r3155r0051");
        due.is("route(0, 4)", x.route(0, 4), 0);
        due.is("route(1, 4)", x.route(1, 4), 0);
        due.is("route(2, 4)", x.route(2, 4), 1);
        x.night();
        due.is("route(2, 4): 1 has lapsed", x.route(2, 4), 0);
        RangePapers y = new RangePapers();
        y.announce(31, 5, 5);
        due.is("route(0, 4): there is no other", y.route(0, 4), 0);
    }

    private static void lostWithARevokedOne() {
        due.begin("LOST with a PAPER that is REVOKED already is none");
        RangePapers x = Due.told("Pp00009p10009g100000g210000r0000r0001");
        due.is("lost(1)", x.lost(1), 0b11);
        due.is("lost(2)", x.lost(2), 0b10);
        x.revoke(1);
        due.is("lost(1)", x.lost(1), 0);
        due.is("lost(2): its PARENT does not STAND", x.lost(2), 0);
        x.revoke(2);
        x.revoke(1);
        due.is("lost(2): REVOKED", x.lost(2), 0);
        due.is("lost(1)", x.lost(1), 0b01);
    }

    private static void chanceAsTheyAre() {
        due.begin("CHANCE: THE DAY, what is SET ASIDE are as they are");
        RangePapers x = Due.told("Pp00002p00009g100000g210000r0000r0001");
        chanceIs("at first", x, 99, 100, 81, 100);
        x.night();
        x.night();
        chanceIs("the last DAY of 1", x, 99, 100, 81, 100);
        x.night();
        chanceIs("the DAY behind it", x, 9, 10, 0, 1);
        x.setAside(1);
        chanceIs("ORIGIN 1 is SET ASIDE, too", x, 0, 1, 0, 1);
        x.undo();
        x.undo();
        x.setAside(1);
        chanceIs("ORIGIN 1 is SET ASIDE", x, 9, 10, 0, 1);
        x.setAside(1);
        chanceIs("it is no more", x, 99, 100, 81, 100);
    }

    private static void chanceIs(String when, RangePapers x, int above1, int below1, int above2, int below2) {
        due.is(when + ": chance(1, 1, true)", x.chance(1, 1, true), above1);
        due.is(when + ": chance(1, 1, false)", x.chance(1, 1, false), below1);
        due.is(when + ": chance(2, 1, true)", x.chance(2, 1, true), above2);
        due.is(when + ": chance(2, 1, false)", x.chance(2, 1, false), below2);
    }

    private static void keptOutAllTheSame() {
        due.begin("by LAW 3 a RIGHT ROUTE keeps out others whether letters go by it or not");
        // No letter goes by 08/4 by 1: 08/5 and 09/5 are longer ones, and RIGHT as well.
        RangePapers x = Due.told("Pg910845r0010r0841r0851r0951");
        due.is("goes(8, 3)", x.goes(8, 3), 2);
        due.is("goes(9, 3)", x.goes(9, 3), 3);
        due.is("goes(0, 3): 00/1 is kept out", x.goes(0, 3), NONE);
        x.withdraw(3);
        x.withdraw(2);
        due.is("goes(0, 3): by 08/4 alone", x.goes(0, 3), NONE);
        due.is("goes(0, 1): not by LAW 1", x.goes(0, 1), 0);
        x.withdraw(1);
        due.is("goes(0, 3)", x.goes(0, 3), 0);
        // The like one ahead of it takes the letters.
        RangePapers y = Due.told("Pg910822r0010r0821r0821");
        due.is("goes(8, 3)", y.goes(8, 3), 1);
        y.withdraw(1);
        due.is("goes(0, 3)", y.goes(0, 3), NONE);
    }

    private static void notUndoneOrKept() {
        due.begin("THE TEXT, SEEN, THE SEED are not undone or kept");
        Run acted = Worlds.some().call("keep", 1).call("night");
        Run told = acted.copy().call("write", 'x').call("see", 0, 0, 0, 1).call("seed", 5).call("drawn", 2);
        RangePapers before = told.made();
        int[] want = {before.about(11), before.about(12), before.fault(), before.which(2)};
        long seed = before.seed(0);
        String[] names = {"undo", "again", "keep"};
        for (String name : names) {
            Run behind = name.equals("undo") ? told.copy().call(name) : told.copy().call(name, 1);
            due.is("about(11) behind " + name, behind.made().about(11), want[0]);
            due.is("about(12) behind " + name, behind.made().about(12), want[1]);
            due.is("fault() behind " + name, behind.made().fault(), want[2]);
            due.is("which(2) behind " + name, behind.made().which(2), want[3]);
            due.is("seed(0) behind " + name, behind.made().seed(0), seed);
        }
        due.is("about(11)", want[0], 3);
        due.is("about(12)", want[1], Worlds.SOME_TREE.length() + 1);
        due.is("undo(): the night, not what came behind it", told.made().undo(), 6);
    }

    private static void lateTree() {
        due.begin("a tree() that is LATE changes nothing");
        Run run = Worlds.some().call("write", 'x');
        due.is("tree()", run.made().tree(), LATE);
        due.same("all behind it", run.copy().call("tree").all(), run.all());
    }

    private static void fractionsAndSets() {
        due.begin("FRACTIONS are told above, below, in least terms; sets are told as bits");
        RangePapers x = Due.told("Pg900000g900000g900000g900000r0000r0000");
        due.is("share(0, true)", x.share(0, true), 1);
        due.is("share(0, false)", x.share(0, false), 2);
        due.is("chance(3, 5, true): none is 0", x.chance(3, 5, true), 0);
        due.is("chance(3, 5, false): by 1", x.chance(3, 5, false), 1);
        RangePapers y = Due.told("P" + "p00009".repeat(5) + "g900000g910011" + "r0000".repeat(5));
        y.announce(0, 1, 5);
        due.is("about(5)", y.about(5), 0b111111);
        due.is("about(7)", y.about(7), 0b011111);
        due.is("about(8)", y.about(8), 0b100000);
        y.revoke(5);
        due.is("about(4)", y.about(4), 0b100000);
        due.is("about(5)", y.about(5), 0b011111);
        for (int origin = 0; origin <= 5; origin++) {
            y.setAside(origin);
            due.is("about(6)", y.about(6), (2 << origin) - 1);
        }
        due.is("which(0)", y.which(0), 0b111111);
        due.is("which(1)", y.which(1), 0b111110);
    }
}
