/** The promises of the document, one method each: ordinary inputs, edges and wrong inputs. */
public final class PromiseTest {
    private static final int UNKNOWN = RangePapers.UNKNOWN, BAD = RangePapers.BAD, LATE = RangePapers.LATE;
    private static final int FULL = RangePapers.FULL, NONE = RangePapers.NONE;
    private static final int LEAST = Integer.MIN_VALUE, GREATEST = Integer.MAX_VALUE;
    private static final int WRONG = 0, NOT_KNOWN = 1, RIGHT = 2;

    /**
     * PAPER 1: 00/1 till 3, PAPER 2 below it: 08/2 till 9, PAPER 3 below that: 16/2 (not WITHIN).
     * GRANTS: 0 on 1, ORIGIN 1, 00/1 most 2; 1 on 2, ORIGIN 2, 08/3 most 4; 2 by hand, ORIGIN 3, 24/2 most 3;
     * 3 on 3, ORIGIN 4, 16/3 most 5; 4 on 2, ORIGIN 2, 00/1 most 5 (not WITHIN its PAPER's).
     * ROUTES: 0 08/2 by 1 (right); 1 08/3 by 2 (right); 2 08/5 by 2 (wrong); 3 16/3 by 4 (not known);
     * 4 24/3 by 3 (right).
     */
    private static final String TREE = "Pp00013p10829p21629"
            + "g110012g220834g932423g341635g220015" + "r0821r0832r0852r1634r2433";

    private static final Due due = new Due();

    public static void main(String[] args) {
        newObject();
        write();
        wipe();
        faultOfShapes();
        faultOfRanges();
        faultOfCounts();
        tree();
        about();
        paper();
        grant();
        route();
        announce();
        withdraw();
        allow();
        tear();
        revoke();
        night();
        setAside();
        undo();
        state();
        goes();
        theft();
        lost();
        judge();
        judgeOrders();
        see();
        unsee();
        which();
        share();
        chance();
        seed();
        drawn();
        keep();
        again();
        due.end();
    }

    private static void newObject() {
        due.begin("1 a new object");
        RangePapers x = new RangePapers();
        int[] want = {1, 0, 0, 0, 0, 1, 0, 0, 0, 32, 0, 0, 0};
        for (int what = 0; what < want.length; what++) {
            due.is("about(" + what + ")", x.about(what), want[what]);
        }
        due.is("paper(0, 1)", x.paper(0, 1), 0);
        due.is("paper(0, 2)", x.paper(0, 2), 0);
        due.is("paper(0, 4)", x.paper(0, 4), 1);
        due.is("undo()", x.undo(), LATE);
        due.is("again(0)", x.again(0), LATE);
        due.is("again(1)", x.again(1), LATE);
        due.is("seed(1)", x.seed(1), 0);
    }

    private static void write() {
        due.begin("2 write");
        RangePapers x = new RangePapers();
        due.is("write(0)", x.write(0), 1);
        due.is("write(255)", x.write(255), 2);
        due.is("write(256)", x.write(256), BAD);
        due.is("write(-1)", x.write(-1), BAD);
        due.is("write(least)", x.write(LEAST), BAD);
        due.is("write(greatest)", x.write(GREATEST), BAD);
        due.is("about(12)", x.about(12), 2);
        for (int i = 3; i <= 99; i++) {
            due.is("write(80) to " + i, x.write(80), i);
        }
        due.is("write(80) of 100", x.write(80), FULL);
        due.is("write(256) when full", x.write(256), BAD);
        due.is("about(12)", x.about(12), 99);
    }

    private static void wipe() {
        due.begin("3 wipe");
        RangePapers x = told("Pp00013");
        due.is("wipe()", x.wipe(), 7);
        due.is("wipe() again", x.wipe(), 0);
        due.is("about(12)", x.about(12), 0);
        due.is("about(0): the tree stays", x.about(0), 2);
        due.is("fault()", x.fault(), 0);
        due.is("write(80)", x.write(80), 1);
        due.is("fault()", x.fault(), NONE);
    }

    private static void faultOfShapes() {
        due.begin("4 fault, shapes");
        fault("", 0);
        fault("p", 0);
        fault("\0", 0);
        fault("P", NONE);
        fault("PP", 1);
        fault("P ", 1);
        fault("P\0", 1);
        fault("P0", 1);
        fault("Pp", 2);
        fault("Pp0", 3);
        fault("Pp1", 2);
        fault("Pp/", 2);
        fault("Pp:", 2);
        fault("Pp00013", NONE);
        fault("Pp00013p2", 8);
        fault("Pp00013p1", 9);
        fault("Pp0001:", 6);
        fault("Pg", 2);
        fault("Pg1", 2);
        fault("Pg8", 2);
        fault("Pg9", 3);
        fault("Pg0", 3);
        fault("Pp00013g1", 9);
        fault("Pp00013g2", 8);
        fault("Pg100015p00013", 2);
        fault("Pg96", 3);
        fault("Pg95", 4);
        fault("Pg900012", NONE);
        fault("Pg900010", 7);
        fault("Pg900011", NONE);
        fault("Pg900015", NONE);
        fault("Pg900016", 7);
        fault("Pr0015", NONE);
        fault("Pr0016", 5);
        fault("Pr001", 5);
        fault("Pr0015x0", 6);
        fault("Pr0015p00013g110012", NONE);
    }

    private static void faultOfRanges() {
        due.begin("4 fault, ranges");
        fault("Pr4", 2);
        fault("Pr3", 3);
        fault("Pr32", 3);
        fault("Pr31", 4);
        fault("Pr2", 3);
        fault("Pr29", 4);
        fault("Pr314", 4);
        fault("Pr315", 5);
        fault("Pr006", 4);
        fault("Pr000", 5);
        for (int start = 0; start < 32; start++) {
            for (int length = 0; length < 10; length++) {
                boolean fits = length <= 5 && start % (32 >> length) == 0;
                String text = "Pr" + start / 10 + start % 10 + length + "0";
                fault(text, fits ? NONE : 4);
            }
        }
    }

    private static void faultOfCounts() {
        due.begin("4 fault, counts");
        fault("P" + "p00000".repeat(5), NONE);
        fault("P" + "p00000".repeat(5) + "p", 31);
        fault("P" + "p00000".repeat(5) + "g500000", NONE);
        fault("P" + "p00000".repeat(5) + "g600000", 32);
        fault("P" + "g000000".repeat(8), NONE);
        fault("P" + "g000000".repeat(8) + "g", 57);
        fault("P" + "r0000".repeat(6), NONE);
        fault("P" + "r0000".repeat(6) + "r", 31);
        fault("P" + "r0000".repeat(6) + "g", 32);
        // All 99 letters are there, and the last part is not at its end: the length is set aside.
        fault("P" + "p00000".repeat(5) + "g000000".repeat(8) + "r0000".repeat(2) + "r0", 99);
    }

    private static void tree() {
        due.begin("5 tree");
        RangePapers x = new RangePapers();
        due.is("tree() of no text", x.tree(), LATE);
        x.announce(0, 0, 0);
        x.allow(9, 0, 0, 0, 0);
        x.night();
        x.setAside(3);
        x.keep(0);
        x.see(0, 0, 0, 1);
        x.seed(77);
        Due.write(x, "Pp");
        due.is("tree() at p", x.tree(), LATE);
        due.is("about(2): nothing changed", x.about(2), 1);
        due.is("about(10): nothing changed", x.about(10), 4);
        due.is("again(0): still kept", x.again(0), 1);
        x.night();
        Due.write(x, "00013g110012");
        due.is("tree()", x.tree(), 2);
        int[] want = {2, 1, 0, 0, 0, 3, 0, 0, 0, 16, 0, 1, 14};
        for (int what = 0; what < want.length; what++) {
            due.is("about(" + what + ")", x.about(what), want[what]);
        }
        due.is("undo()", x.undo(), LATE);
        due.is("again(0)", x.again(0), LATE);
        due.is("seed(0)", x.seed(0), 77);
        x.revoke(1);
        due.is("tree() once more", x.tree(), 2);
        due.is("about(4)", x.about(4), 0);
        x.wipe();
        Due.write(x, "Pr0000");
        due.is("tree() of a route", x.tree(), 1);
        due.is("tree() once more", x.tree(), 1);
        due.is("about(2)", x.about(2), 1);
        x.wipe();
        x.write('P');
        due.is("tree() of P", x.tree(), 1);
        due.is("about(1)", x.about(1), 0);
        due.is("about(2)", x.about(2), 0);
    }

    private static void about() {
        due.begin("6 about");
        RangePapers x = told(TREE);
        due.is("about(0)", x.about(0), 4);
        due.is("about(1)", x.about(1), 5);
        due.is("about(2)", x.about(2), 5);
        due.is("about(3)", x.about(3), 0);
        due.is("about(5)", x.about(5), 0b0111);
        due.is("about(7)", x.about(7), 0b10011);
        due.is("about(8)", x.about(8), 0b00100);
        due.is("about(9)", x.about(9), 8);
        due.is("about(12)", x.about(12), TREE.length());
        x.revoke(1);
        x.setAside(5);
        x.setAside(0);
        x.night();
        x.see(0, 0, 0, 0);
        due.is("about(3)", x.about(3), 1);
        due.is("about(4)", x.about(4), 0b0010);
        due.is("about(5)", x.about(5), 0b0001);
        due.is("about(6)", x.about(6), 0b100001);
        due.is("about(7)", x.about(7), 0b10000);
        due.is("about(8)", x.about(8), 0);
        due.is("about(9)", x.about(9), 24);
        due.is("about(10)", x.about(10), 4);
        due.is("about(11)", x.about(11), 1);
        due.is("about(-1)", x.about(-1), BAD);
        due.is("about(13)", x.about(13), BAD);
        due.is("about(least)", x.about(LEAST), BAD);
    }

    private static void paper() {
        due.begin("7 paper");
        RangePapers x = told(TREE);
        int[][] want = {{NONE, 0, 0, NONE, 1}, {0, 0, 1, 3, 1}, {1, 8, 2, 9, 1}, {2, 16, 2, 9, 0}};
        for (int paper = 0; paper < 4; paper++) {
            for (int what = 0; what < 5; what++) {
                due.is("paper(" + paper + ", " + what + ")", x.paper(paper, what), want[paper][what]);
            }
        }
        due.is("paper(0, 5)", x.paper(0, 5), BAD);
        due.is("paper(0, -1)", x.paper(0, -1), BAD);
        due.is("paper(4, 0)", x.paper(4, 0), UNKNOWN);
        due.is("paper(-1, 0)", x.paper(-1, 0), UNKNOWN);
        due.is("paper(4, 5)", x.paper(4, 5), UNKNOWN);
        x.night();
        x.night();
        x.night();
        due.is("paper(1, 4) on its last day", x.paper(1, 4), 1);
        x.night();
        due.is("paper(1, 4) behind it", x.paper(1, 4), 0);
        due.is("paper(2, 4) with its parent", x.paper(2, 4), 0);
        due.is("paper(0, 4) lasts for good", x.paper(0, 4), 1);
        RangePapers y = told("Pp01629p10029p11639p11619");
        due.is("about(5): not within, within, wider", y.about(5), 0b01011);
    }

    private static void grant() {
        due.begin("8 grant");
        RangePapers x = told(TREE);
        int[][] want = {{1, 1, 0, 1, 2, 1}, {2, 2, 8, 3, 4, 1}, {9, 3, 24, 2, 3, 1}, {3, 4, 16, 3, 5, 0},
            {2, 2, 0, 1, 5, 0}};
        for (int grant = 0; grant < 5; grant++) {
            for (int what = 0; what < 6; what++) {
                due.is("grant(" + grant + ", " + what + ")", x.grant(grant, what), want[grant][what]);
            }
        }
        due.is("grant(0, 6)", x.grant(0, 6), BAD);
        due.is("grant(0, -1)", x.grant(0, -1), BAD);
        due.is("grant(5, 0)", x.grant(5, 0), UNKNOWN);
        due.is("grant(-1, 6)", x.grant(-1, 6), UNKNOWN);
        x.setAside(3);
        x.setAside(1);
        due.is("grant(2, 5): by hand, set aside", x.grant(2, 5), 1);
        due.is("grant(0, 5): set aside", x.grant(0, 5), 0);
        x.allow(0, 1, 0, 0, 0);
        due.is("grant(5, 5): paper 0, set aside", x.grant(5, 5), 0);
        x.setAside(1);
        due.is("grant(5, 5): paper 0", x.grant(5, 5), 1);
    }

    private static void route() {
        due.begin("9 route");
        RangePapers x = told(TREE);
        int[][] want = {{8, 2, 1, RIGHT, 2}, {8, 3, 2, RIGHT, 2}, {8, 5, 2, WRONG, 2}, {16, 3, 4, NOT_KNOWN, 0},
            {24, 3, 3, RIGHT, 0}};
        for (int route = 0; route < 5; route++) {
            for (int what = 0; what < 5; what++) {
                due.is("route(" + route + ", " + what + ")", x.route(route, what), want[route][what]);
            }
        }
        due.is("route(0, 5)", x.route(0, 5), BAD);
        due.is("route(0, -1)", x.route(0, -1), BAD);
        due.is("route(5, 0)", x.route(5, 0), UNKNOWN);
        due.is("route(-1, 5)", x.route(-1, 5), UNKNOWN);
        x.revoke(2);
        due.is("route(1, 4): 2 does not stand", x.route(1, 4), 1);
        due.is("route(1, 3)", x.route(1, 3), WRONG);
        RangePapers y = told("Pp00029p00029p00019r0020");
        due.is("route(0, 4): of like ones the least", y.route(0, 4), 1);
        y.revoke(1);
        due.is("route(0, 4): the other", y.route(0, 4), 2);
        RangePapers z = told("Pp00039r0020");
        due.is("route(0, 4): not within 1", z.route(0, 4), 0);
    }

    private static void announce() {
        due.begin("10 announce");
        RangePapers x = new RangePapers();
        due.is("announce(31, 5, 5)", x.announce(31, 5, 5), 0);
        due.is("announce(31, 5, 5)", x.announce(31, 5, 5), 1);
        due.is("announce(31, 4, 0)", x.announce(31, 4, 0), BAD);
        due.is("announce(1, 0, 0)", x.announce(1, 0, 0), BAD);
        due.is("announce(32, 5, 0)", x.announce(32, 5, 0), BAD);
        due.is("announce(-1, 5, 0)", x.announce(-1, 5, 0), BAD);
        due.is("announce(-32, 0, 0)", x.announce(-32, 0, 0), BAD);
        due.is("announce(0, 6, 0)", x.announce(0, 6, 0), BAD);
        due.is("announce(0, -1, 0)", x.announce(0, -1, 0), BAD);
        due.is("announce(0, 32, 0)", x.announce(0, 32, 0), BAD);
        due.is("announce(least, least, 0)", x.announce(LEAST, LEAST, 0), BAD);
        due.is("announce(1, 0, 6)", x.announce(1, 0, 6), BAD);
        due.is("announce(0, 0, 6)", x.announce(0, 0, 6), UNKNOWN);
        due.is("announce(0, 0, -1)", x.announce(0, 0, -1), UNKNOWN);
        due.is("about(10)", x.about(10), 2);
        for (int i = 2; i < 6; i++) {
            due.is("announce(0, 0, 0)", x.announce(0, 0, 0), i);
        }
        due.is("announce(0, 0, 0)", x.announce(0, 0, 0), FULL);
        due.is("announce(0, 0, 6)", x.announce(0, 0, 6), UNKNOWN);
        due.is("announce(0, 6, 0)", x.announce(0, 6, 0), BAD);
        due.is("about(2)", x.about(2), 6);
        due.is("about(10)", x.about(10), 6);
        due.is("route(1, 0)", x.route(1, 0), 31);
    }

    private static void withdraw() {
        due.begin("11 withdraw");
        RangePapers x = told(TREE);
        due.is("withdraw(5)", x.withdraw(5), UNKNOWN);
        due.is("withdraw(-1)", x.withdraw(-1), UNKNOWN);
        due.is("about(10)", x.about(10), 0);
        due.is("withdraw(1)", x.withdraw(1), 4);
        due.is("route(0, 1)", x.route(0, 1), 2);
        due.is("route(1, 1)", x.route(1, 1), 5);
        due.is("route(3, 0)", x.route(3, 0), 24);
        due.is("route(4, 0)", x.route(4, 0), UNKNOWN);
        due.is("about(7)", x.about(7), 0b1001);
        due.is("withdraw(3)", x.withdraw(3), 3);
        due.is("withdraw(0)", x.withdraw(0), 2);
        due.is("withdraw(0)", x.withdraw(0), 1);
        due.is("withdraw(0)", x.withdraw(0), 0);
        due.is("withdraw(0)", x.withdraw(0), UNKNOWN);
        due.is("about(10)", x.about(10), 5);
    }

    private static void allow() {
        due.begin("12 allow");
        RangePapers x = told("Pp00013");
        due.is("allow(1, 5, 31, 5, 5)", x.allow(1, 5, 31, 5, 5), 0);
        due.is("allow(9, 0, 0, 0, 0)", x.allow(9, 0, 0, 0, 0), 1);
        due.is("grant(0, 5): not within its paper", x.grant(0, 5), 0);
        due.is("grant(1, 0)", x.grant(1, 0), 9);
        due.is("allow(2, ..)", x.allow(2, 0, 0, 0, 0), UNKNOWN);
        due.is("allow(8, ..)", x.allow(8, 0, 0, 0, 0), UNKNOWN);
        due.is("allow(10, ..)", x.allow(10, 0, 0, 0, 0), UNKNOWN);
        due.is("allow(-1, ..)", x.allow(-1, 0, 0, 0, 0), UNKNOWN);
        due.is("allow(0, 6, ..)", x.allow(0, 6, 0, 0, 0), UNKNOWN);
        due.is("allow(0, -1, ..)", x.allow(0, -1, 0, 0, 0), UNKNOWN);
        due.is("allow(2, 0, 1, 0, 0)", x.allow(2, 0, 1, 0, 0), UNKNOWN);
        due.is("allow(0, 0, 1, 0, 0)", x.allow(0, 0, 1, 0, 0), BAD);
        due.is("allow(0, 0, 0, 6, 6)", x.allow(0, 0, 0, 6, 6), BAD);
        due.is("allow(0, 0, 0, -1, 0)", x.allow(0, 0, 0, -1, 0), BAD);
        due.is("allow(0, 0, 0, 3, 2)", x.allow(0, 0, 0, 3, 2), BAD);
        due.is("allow(0, 0, 0, 3, 6)", x.allow(0, 0, 0, 3, 6), BAD);
        due.is("allow(0, 0, 0, 0, least)", x.allow(0, 0, 0, 0, LEAST), BAD);
        due.is("about(10)", x.about(10), 2);
        for (int i = 2; i < 8; i++) {
            due.is("allow(0, 1, 4, 3, 4)", x.allow(0, 1, 4, 3, 4), i);
        }
        due.is("allow(0, 1, 4, 3, 4)", x.allow(0, 1, 4, 3, 4), FULL);
        due.is("allow(0, 1, 4, 3, 2)", x.allow(0, 1, 4, 3, 2), BAD);
        due.is("allow(2, 1, 4, 3, 4)", x.allow(2, 1, 4, 3, 4), UNKNOWN);
        int[] want = {0, 1, 4, 3, 4, 1};
        for (int what = 0; what < 6; what++) {
            due.is("grant(7, " + what + ")", x.grant(7, what), want[what]);
        }
        due.is("about(10)", x.about(10), 8);
    }

    private static void tear() {
        due.begin("13 tear");
        RangePapers x = told(TREE);
        due.is("tear(5)", x.tear(5), UNKNOWN);
        due.is("tear(-1)", x.tear(-1), UNKNOWN);
        due.is("about(10)", x.about(10), 0);
        due.is("tear(0)", x.tear(0), 4);
        due.is("grant(0, 2)", x.grant(0, 2), 8);
        due.is("grant(3, 4)", x.grant(3, 4), 5);
        due.is("grant(4, 0)", x.grant(4, 0), UNKNOWN);
        due.is("about(7)", x.about(7), 0b10010);
        due.is("about(9)", x.about(9), 20);
        due.is("tear(3)", x.tear(3), 3);
        due.is("about(10)", x.about(10), 2);
    }

    private static void revoke() {
        due.begin("14 revoke");
        RangePapers x = told(TREE);
        due.is("revoke(0)", x.revoke(0), UNKNOWN);
        due.is("revoke(4)", x.revoke(4), UNKNOWN);
        due.is("revoke(9)", x.revoke(9), UNKNOWN);
        due.is("revoke(-1)", x.revoke(-1), UNKNOWN);
        due.is("revoke(33)", x.revoke(33), UNKNOWN);
        due.is("about(10)", x.about(10), 0);
        due.is("revoke(1)", x.revoke(1), 1);
        due.is("about(5)", x.about(5), 0b0001);
        due.is("revoke(2)", x.revoke(2), 1);
        due.is("revoke(1)", x.revoke(1), 0);
        due.is("about(4)", x.about(4), 0b0100);
        due.is("about(5)", x.about(5), 0b0011);
        due.is("about(10)", x.about(10), 3);
    }

    private static void night() {
        due.begin("15 night");
        RangePapers x = new RangePapers();
        for (int day = 1; day <= 9; day++) {
            due.is("night()", x.night(), day);
        }
        due.is("night()", x.night(), LATE);
        due.is("about(3)", x.about(3), 9);
        due.is("about(10)", x.about(10), 9);
    }

    private static void setAside() {
        due.begin("16 setAside");
        RangePapers x = told(TREE);
        due.is("setAside(6)", x.setAside(6), UNKNOWN);
        due.is("setAside(-1)", x.setAside(-1), UNKNOWN);
        due.is("setAside(32)", x.setAside(32), UNKNOWN);
        due.is("setAside(1)", x.setAside(1), 1);
        due.is("about(7)", x.about(7), 0b10010);
        due.is("about(6)", x.about(6), 0b10);
        due.is("setAside(5)", x.setAside(5), 1);
        due.is("setAside(1)", x.setAside(1), 0);
        due.is("about(6)", x.about(6), 0b100000);
        due.is("about(10)", x.about(10), 3);
    }

    private static void undo() {
        due.begin("17 undo");
        for (int i = 6; i >= 0; i--) {
            RangePapers undone = acted(7);
            due.is("about(10)", undone.about(10), 7);
            for (int left = 6; left >= i; left--) {
                due.is("undo()", undone.undo(), left);
            }
            due.is("all is as it was ahead of act " + i, look(undone).equals(look(acted(i))) ? 1 : 0, 1);
        }
        RangePapers x = told(TREE);
        due.is("undo()", x.undo(), LATE);
        x.see(0, 0, 0, 0);
        x.seed(5);
        x.night();
        x.wipe();
        x.undo();
        due.is("about(11): what is seen stays", x.about(11), 1);
        due.is("about(12): the text stays", x.about(12), 0);
        due.is("seed(0): the seed stays", x.seed(0), 5);
        for (int i = 0; i < 20; i++) {
            x.setAside(i % 6);
        }
        due.is("about(10): never more than 14", x.about(10), 14);
        x.announce(32, 0, 0);
        x.revoke(0);
        due.is("about(10): refused ones are none", x.about(10), 14);
        for (int i = 13; i >= 0; i--) {
            due.is("undo()", x.undo(), i);
        }
        due.is("undo(): the first six are forgotten", x.undo(), LATE);
        due.is("about(6)", x.about(6), 0b111111);
        RangePapers y = new RangePapers();
        for (int i = 0; i < 15; i++) {
            due.is("about(10)", y.about(10), Math.min(i, 14));
            act15(y, i);
        }
        due.is("about(10)", y.about(10), 14);
        for (int i = 13; i >= 0; i--) {
            due.is("undo()", y.undo(), i);
        }
        due.is("about(6): the first of 15 stays", y.about(6), 0b100000);
        due.is("about(3): the second is undone", y.about(3), 0);
    }

    /** Fifteen acts, the first two of which no other is like. */
    private static void act15(RangePapers x, int i) {
        if (i == 0) {
            x.setAside(5);
        } else if (i == 1) {
            x.night();
        } else {
            x.setAside(i % 3);
        }
    }

    /** As many of the acts as are told; a new object each time, as one is good for 512 calls. */
    private static RangePapers acted(int many) {
        RangePapers x = told(TREE);
        for (int i = 0; i < many; i++) {
            act(x, i);
        }
        return x;
    }

    private static void act(RangePapers x, int i) {
        switch (i) {
            case 0: x.withdraw(1); break;
            case 1: x.tear(2); break;
            case 2: x.announce(4, 3, 5); break;
            case 3: x.allow(9, 5, 4, 3, 3); break;
            case 4: x.revoke(2); break;
            case 5: x.night(); break;
            default: x.setAside(1); break;
        }
    }

    private static String look(RangePapers x) {
        StringBuilder all = new StringBuilder();
        for (int what = 0; what < 10; what++) {
            all.append(x.about(what)).append(' ');
        }
        for (int i = 0; i < 8; i++) {
            for (int what = 0; what < 6; what++) {
                all.append(x.grant(i, what)).append(' ').append(x.route(i, what)).append(' ');
            }
        }
        return all.toString();
    }

    private static void state() {
        due.begin("18 state");
        RangePapers x = told(TREE);
        due.is("state(0, 1, 1)", x.state(0, 1, 1), RIGHT);
        due.is("state(0, 2, 1)", x.state(0, 2, 1), RIGHT);
        due.is("state(0, 3, 1)", x.state(0, 3, 1), WRONG);
        due.is("state(0, 2, 2)", x.state(0, 2, 2), WRONG);
        due.is("state(0, 0, 1)", x.state(0, 0, 1), NOT_KNOWN);
        due.is("state(10, 4, 2)", x.state(10, 4, 2), RIGHT);
        due.is("state(12, 4, 2)", x.state(12, 4, 2), WRONG);
        due.is("state(16, 3, 4)", x.state(16, 3, 4), NOT_KNOWN);
        due.is("state(28, 3, 3)", x.state(28, 3, 3), RIGHT);
        due.is("state(31, 5, 3)", x.state(31, 5, 3), WRONG);
        due.is("state(1, 4, 0)", x.state(1, 4, 0), BAD);
        due.is("state(32, 5, 0)", x.state(32, 5, 0), BAD);
        due.is("state(0, 6, 0)", x.state(0, 6, 0), BAD);
        due.is("state(0, -1, 6)", x.state(0, -1, 6), BAD);
        due.is("state(0, 0, 6)", x.state(0, 0, 6), UNKNOWN);
        due.is("state(0, 0, -1)", x.state(0, 0, -1), UNKNOWN);
    }

    private static void goes() {
        due.begin("19 goes");
        RangePapers x = told(TREE);
        int[] by8 = {2, 1, 1, 1};
        int[] by17 = {3, 3, NONE, 3};
        for (int law = 0; law < 4; law++) {
            due.is("goes(8, " + law + ")", x.goes(8, law), by8[law]);
            due.is("goes(17, " + law + ")", x.goes(17, law), by17[law]);
            due.is("goes(0, " + law + ")", x.goes(0, law), NONE);
            due.is("goes(31, " + law + ")", x.goes(31, law), NONE);
        }
        x.announce(16, 1, 0);
        due.is("goes(31, 1): not known of", x.goes(31, 1), 5);
        due.is("goes(31, 3): route 4 keeps it out", x.goes(31, 3), NONE);
        due.is("goes(25, 3): route 4 itself", x.goes(25, 3), 4);
        due.is("goes(17, 0): the longest", x.goes(17, 0), 3);
        x.withdraw(4);
        due.is("goes(31, 3): nothing right there", x.goes(31, 3), 4);
        x.announce(16, 1, 1);
        due.is("goes(31, 0): of like ones the least", x.goes(31, 0), 4);
        due.is("goes(32, 0)", x.goes(32, 0), UNKNOWN);
        due.is("goes(-1, 0)", x.goes(-1, 0), UNKNOWN);
        goesByLaw3();
        due.is("goes(32, 4)", x.goes(32, 4), UNKNOWN);
        due.is("goes(0, 4)", x.goes(0, 4), BAD);
        due.is("goes(0, -1)", x.goes(0, -1), BAD);
    }

    private static void goesByLaw3() {
        // Right: 00/3 by 1, twice; not known of: 00/1 and 16/1 by 0, 00/0 by 0.
        RangePapers x = told("Pg910033r0031r0010r1610r0000r0031");
        due.is("goes(0, 3): route 0", x.goes(0, 3), 0);
        due.is("goes(0, 0): route 0", x.goes(0, 0), 0);
        due.is("goes(0, 1): route 0", x.goes(0, 1), 0);
        due.is("goes(8, 1): route 1", x.goes(8, 1), 1);
        due.is("goes(8, 3): route 0 keeps it out", x.goes(8, 3), NONE);
        due.is("goes(16, 3): route 2 is apart", x.goes(16, 3), 2);
        x.withdraw(4);
        due.is("goes(8, 3): route 0 alone keeps it out", x.goes(8, 3), NONE);
        x.withdraw(0);
        due.is("goes(8, 3): nothing right", x.goes(8, 3), 0);
        due.is("goes(0, 3): nothing right", x.goes(0, 3), 0);
        // A wrong one as route 0 is let in by LAW 0 alone.
        RangePapers y = told("Pg910033r0030r0000");
        due.is("goes(0, 0): wrong", y.goes(0, 0), 0);
        due.is("goes(0, 1)", y.goes(0, 1), 1);
        due.is("goes(0, 2)", y.goes(0, 2), NONE);
        due.is("goes(0, 3)", y.goes(0, 3), 1);
    }

    private static void theft() {
        due.begin("20 theft");
        RangePapers x = told(TREE);
        due.is("theft(8, 0, 0): one place is taken", x.theft(8, 0, 0), NONE);
        due.is("theft(9, 0, 0)", x.theft(9, 0, 0), 4);
        due.is("theft(9, 0, 1)", x.theft(9, 0, 1), NONE);
        RangePapers one = told("Pr0040");
        due.is("theft(0, 0, 0): one place", one.theft(0, 0, 0), 5);
        due.is("theft(9, 2, 1)", x.theft(9, 2, 1), 4);
        due.is("theft(8, 2, 2): the wrong one is not let in", x.theft(8, 2, 2), 4);
        due.is("theft(0, 0, 0)", x.theft(0, 0, 0), 0);
        due.is("theft(0, 0, 1)", x.theft(0, 0, 1), 0);
        due.is("theft(0, 0, 2)", x.theft(0, 0, 2), NONE);
        due.is("theft(0, 0, 3): right ones below 00/1", x.theft(0, 0, 3), NONE);
        due.is("theft(0, 1, 3)", x.theft(0, 1, 3), 1);
        due.is("theft(20, 0, 3)", x.theft(20, 0, 3), 2);
        due.is("about(2): nothing changed", x.about(2), 5);
        due.is("about(10): nothing changed", x.about(10), 0);
        x.announce(0, 0, 0);
        due.is("theft(0, 1, 0): though there are 6", x.theft(0, 1, 0), 1);
        due.is("about(2)", x.about(2), 6);
        due.is("theft(32, 0, 0)", x.theft(32, 0, 0), UNKNOWN);
        due.is("theft(-1, 0, 0)", x.theft(-1, 0, 0), UNKNOWN);
        due.is("theft(0, 6, 0)", x.theft(0, 6, 0), UNKNOWN);
        due.is("theft(0, -1, 4)", x.theft(0, -1, 4), UNKNOWN);
        due.is("theft(0, 0, 4)", x.theft(0, 0, 4), BAD);
        due.is("theft(0, 0, -1)", x.theft(0, 0, -1), BAD);
        // A thief's RIGHT one keeps out the NOT KNOWN one that has its PLACES in common.
        RangePapers y = told("Pg911613r0010r0000");
        due.is("theft(16, 1, 3)", y.theft(16, 1, 3), 1);
        due.is("theft(16, 0, 3)", y.theft(16, 0, 3), NONE);
    }

    private static void lost() {
        due.begin("21 lost");
        RangePapers x = told(TREE);
        due.is("lost(1)", x.lost(1), 0b00011);
        due.is("lost(2)", x.lost(2), 0b00010);
        due.is("lost(3)", x.lost(3), 0);
        due.is("lost(0)", x.lost(0), UNKNOWN);
        due.is("lost(4)", x.lost(4), UNKNOWN);
        due.is("lost(-1)", x.lost(-1), UNKNOWN);
        due.is("about(4): nothing changed", x.about(4), 0);
        x.revoke(2);
        due.is("lost(2): revoked already", x.lost(2), 0);
        due.is("lost(1)", x.lost(1), 0b00001);
        x.allow(9, 1, 8, 2, 2);
        due.is("lost(1): right by hand, too", x.lost(1), 0);
    }

    private static void judge() {
        due.begin("22 judge");
        RangePapers x = told(TREE);
        long[] so = {1100, 1300, 2000, 3000, 3500, 4002, 4200, 4301, 5000, 5131, 5217, 5331,
            6001, 6101, 6300, 7001, 7201, 7300, 7400, 8000, 8400};
        long[] not = {0, 1000, 1400, 1110, 1101, 2100, 2010, 2001, 3600, 3010, 3001, 4001, 4003, 4012, 4500, 4501,
            5008, 5032, 5400, 5099, 6000, 6002, 6011, 6400, 6401, 7000, 7011, 7002, 7500, 7501, 8500, 8010, 8001,
            9000, 9999};
        for (long row : so) {
            due.is("judge(1, " + row + ")", x.judge(1, row), NONE);
        }
        for (long row : not) {
            due.is("judge(1, " + row + ")", x.judge(1, row), 0);
        }
        due.is("judge(0, 0)", x.judge(0, 0), BAD);
        due.is("judge(5, 0)", x.judge(5, 0), BAD);
        due.is("judge(-1, 0)", x.judge(-1, 0), BAD);
        due.is("judge(1, -1)", x.judge(1, -1), BAD);
        due.is("judge(1, 10000)", x.judge(1, 10000), BAD);
        due.is("judge(1, 9999)", x.judge(1, 9999), 0);
        due.is("judge(3, 10^12)", x.judge(3, 1000000000000L), BAD);
        due.is("judge(4, 10^16)", x.judge(4, 10000000000000000L), BAD);
        due.is("judge(4, 10^16 - 1)", x.judge(4, 9999999999999999L), 0);
        due.is("judge(4, least)", x.judge(4, Long.MIN_VALUE), BAD);
        due.is("judge(4, greatest)", x.judge(4, Long.MAX_VALUE), BAD);
    }

    private static void judgeOrders() {
        due.begin("22 judge, what is ahead being done");
        RangePapers x = told(TREE);
        due.is("revoked, then 2 does not stand", x.judge(2, 11006200), NONE);
        due.is("revoked, then 2 stands", x.judge(2, 11006201), 1);
        due.is("revoked twice, then 2 stands", x.judge(3, 110011006201L), NONE);
        due.is("2 revoked, then 1 stands, 2 does not", x.judge(3, 120061016200L), NONE);
        due.is("set aside twice, then grant 0 counts", x.judge(3, 310031007001L), NONE);
        due.is("set aside, then grant 0 does not", x.judge(2, 31007000), NONE);
        due.is("four nights: 1 stands", x.judge(4, 2000200020006101L), NONE);
        due.is("set aside, then route 0 is right", x.judge(2, 31004002), 1);
        due.is("set aside, then route 0 is not known of", x.judge(2, 31004001), NONE);
        due.is("withdrawn, then route 0 is 2/3", x.judge(3, 800080004000L), NONE);
        due.is("all withdrawn but one", x.judge(4, 8000800080008000L), NONE);
        due.is("no fifth route behind one withdrawn", x.judge(2, 80008400), 1);
        due.is("withdrawn, then 8 goes by none", x.judge(4, 8000800080005008L), NONE);
        due.is("the first is a blank", x.judge(2, 2000), 0);
        due.is("the third is wrong", x.judge(3, 200020000000L), 2);
        due.is("the fourth is wrong", x.judge(4, 2000200020009000L), 3);
        due.is("about(2): nothing changed", x.about(2), 5);
        due.is("about(3): nothing changed", x.about(3), 0);
        due.is("about(4): nothing changed", x.about(4), 0);
        due.is("about(6): nothing changed", x.about(6), 0);
        due.is("about(10): nothing changed", x.about(10), 0);
        for (int i = 0; i < 8; i++) {
            x.night();
        }
        due.is("the last night, and one more", x.judge(2, 20002000), 1);
    }

    private static void see() {
        due.begin("23 see");
        RangePapers x = new RangePapers();
        due.is("see(0, 0, 0, 0)", x.see(0, 0, 0, 0), 1);
        due.is("see(31, 5, 5, 2)", x.see(31, 5, 5, 2), 2);
        due.is("see(1, 4, 0, 0)", x.see(1, 4, 0, 0), BAD);
        due.is("see(0, 6, 0, 0)", x.see(0, 6, 0, 0), BAD);
        due.is("see(32, 5, 0, 0)", x.see(32, 5, 0, 0), BAD);
        due.is("see(0, 0, 0, 3)", x.see(0, 0, 0, 3), BAD);
        due.is("see(0, 0, 0, -1)", x.see(0, 0, 0, -1), BAD);
        due.is("see(0, 0, 6, 3)", x.see(0, 0, 6, 3), BAD);
        due.is("see(0, 0, 6, 0)", x.see(0, 0, 6, 0), UNKNOWN);
        due.is("see(0, 0, -1, 0)", x.see(0, 0, -1, 0), UNKNOWN);
        for (int i = 3; i <= 6; i++) {
            due.is("see(0, 0, 0, 1)", x.see(0, 0, 0, 1), i);
        }
        due.is("see(0, 0, 0, 1)", x.see(0, 0, 0, 1), FULL);
        due.is("see(0, 0, 6, 1)", x.see(0, 0, 6, 1), UNKNOWN);
        due.is("see(0, 0, 0, 3)", x.see(0, 0, 0, 3), BAD);
        due.is("about(11)", x.about(11), 6);
        due.is("about(10): no act", x.about(10), 0);
    }

    private static void unsee() {
        due.begin("24 unsee");
        RangePapers x = new RangePapers();
        due.is("unsee()", x.unsee(), 0);
        x.see(0, 0, 0, 0);
        x.see(0, 0, 0, 1);
        due.is("unsee()", x.unsee(), 2);
        due.is("about(11)", x.about(11), 0);
        due.is("unsee()", x.unsee(), 0);
        x.allow(9, 0, 0, 0, 0);
        due.is("which(0)", x.which(0), 0b111111);
        due.is("see(0, 0, 0, 0)", x.see(0, 0, 0, 0), 1);
    }

    private static void which() {
        due.begin("25 which");
        RangePapers x = told("Pp00009g110012g911623");
        due.is("which(0): nothing seen", x.which(0), 0b111110);
        due.is("which(1): nothing seen", x.which(1), 0b111100);
        due.is("which(2)", x.which(2), UNKNOWN);
        due.is("which(-1)", x.which(-1), UNKNOWN);
        x.see(0, 3, 1, RIGHT);
        due.is("which(0): 3 at least", x.which(0), 0b111000);
        x.see(0, 5, 1, WRONG);
        due.is("which(0): not 5", x.which(0), 0b011000);
        due.is("which(1): grant 0 as it is lets 2 alone", x.which(1), 0);
        due.is("grant(0, 4): nothing changed", x.grant(0, 4), 2);
        x.tear(0);
        x.allow(1, 1, 0, 1, 4);
        due.is("which(0): as it is when asked", x.which(0), 0b111100);
        x.see(16, 2, 1, RIGHT);
        x.see(16, 3, 1, WRONG);
        due.is("which(0): 2 alone", x.which(0), 0b000100);
        x.revoke(1);
        due.is("which(1): it does not count", x.which(1), 0);
        x.unsee();
        x.see(0, 1, 1, NOT_KNOWN);
        due.is("which(1): it does not count, any will do", x.which(1), 0b111110);
        x.unsee();
        x.see(16, 2, 0, WRONG);
        due.is("which(0): wrong by its origin, any will do", x.which(0), 0b111100);
    }

    private static void share() {
        due.begin("26 share");
        RangePapers x = told("Pg900015g900015g900015g910015g000005r0010r0030r0010r0011r0000");
        for (int grant = 0; grant < 3; grant++) {
            shareIs(x, grant, 3, 4);
        }
        shareIs(x, 3, 1, 1);
        shareIs(x, 4, 7, 4);
        x.setAside(0);
        shareIs(x, 0, 1, 1);
        shareIs(x, 4, 0, 1);
        due.is("share(5, true)", x.share(5, true), UNKNOWN);
        due.is("share(-1, false)", x.share(-1, false), UNKNOWN);
        RangePapers y = told("P" + "g900005".repeat(8) + "r0000".repeat(6));
        shareIs(y, 7, 3, 4);
        y.tear(0);
        shareIs(y, 6, 6, 7);
        y.withdraw(0);
        shareIs(y, 6, 5, 7);
        due.is("about(10): nothing changed", y.about(10), 2);
    }

    private static void shareIs(RangePapers x, int grant, int above, int below) {
        due.is("share(" + grant + ", true)", x.share(grant, true), above);
        due.is("share(" + grant + ", false)", x.share(grant, false), below);
    }

    private static void chance() {
        due.begin("27 chance");
        RangePapers x = told(TREE);
        chanceIs(x, 0, 5, 1, 1);
        chanceIs(x, 1, 5, 1, 1);
        chanceIs(x, 2, 5, 1, 2);
        chanceIs(x, 3, 5, 1, 4);
        chanceIs(x, 3, 1, 81, 100);
        chanceIs(x, 4, 5, 0, 1);
        chanceIs(x, 6, 0, 0, 1);
        chanceIs(x, 3, 0, 1, 1);
        chanceIs(x, 2, 10, 0, 1);
        chanceIs(x, 1, 10, 1, 1);
        x.revoke(1);
        chanceIs(x, 3, 1, 81, 100);
        due.is("about(4): nothing changed", x.about(4), 0b10);
        x.setAside(2);
        chanceIs(x, 3, 1, 0, 1);
        chanceIs(x, 2, 1, 9, 10);
        due.is("chance(-1, 0, true)", x.chance(-1, 0, true), BAD);
        due.is("chance(7, 0, true)", x.chance(7, 0, true), BAD);
        due.is("chance(0, -1, false)", x.chance(0, -1, false), BAD);
        due.is("chance(0, 11, false)", x.chance(0, 11, false), BAD);
        RangePapers deep = told("Pp00009p10009p20009p30009p40009g500000r0000");
        chanceIs(deep, 1, 3, 16807, 100000);
        chanceIs(deep, 1, 5, 1, 32);
        RangePapers one = told("Pp00009g100000r0000");
        for (int x10 = 0; x10 <= 10; x10++) {
            int[] above = {1, 9, 4, 7, 3, 1, 2, 3, 1, 1, 0};
            int[] below = {1, 10, 5, 10, 5, 2, 5, 10, 5, 10, 1};
            chanceIs(one, 1, x10, above[x10], below[x10]);
        }
    }

    private static void chanceIs(RangePapers x, int v, int tenths, int above, int below) {
        due.is("chance(" + v + ", " + tenths + ", true)", x.chance(v, tenths, true), above);
        due.is("chance(" + v + ", " + tenths + ", false)", x.chance(v, tenths, false), below);
    }

    private static void seed() {
        due.begin("28 seed");
        RangePapers x = new RangePapers();
        due.is("seed(least)", x.seed(Long.MIN_VALUE), 0);
        due.is("seed(greatest)", x.seed(Long.MAX_VALUE), Long.MIN_VALUE);
        due.is("seed(-9)", x.seed(-9), Long.MAX_VALUE);
        due.is("seed(3)", x.seed(3), -9);
        due.is("about(10)", x.about(10), 0);
    }

    private static void drawn() {
        due.begin("29 drawn");
        RangePapers x = new RangePapers();
        due.is("drawn(40): none known of", x.drawn(40), 40);
        x.seed(0);
        due.is("drawn(1)", x.drawn(1), 1);
        due.is("seed(0)", x.seed(0), 1442695040888963407L);
        due.is("drawn(0)", x.drawn(0), BAD);
        due.is("drawn(41)", x.drawn(41), BAD);
        due.is("drawn(-1)", x.drawn(-1), BAD);
        due.is("seed(0): nothing changed", x.seed(0), 0);
        x.allow(9, 3, 0, 0, 0);
        x.allow(9, 4, 0, 1, 4);
        // The states of the RANGES that the document's rule gives from THE SEED on.
        long seed = 12345;
        x.seed(seed);
        int sum = 0;
        for (int i = 0; i < 40; i++) {
            seed = seed * 6364136223846793005L + 1442695040888963407L;
            int v = (int) (seed >>> 33);
            int size = 32 >> v % 6;
            sum += x.state(v / 6 % 32 / size * size, v % 6, v / 192 % 6);
        }
        due.is("drawn(40)", x.drawn(40), sum);
        due.is("seed(0)", x.seed(0), seed);
        due.is("about(10): no act", x.about(10), 2);
        drawnOneByOne();
    }

    private static void drawnOneByOne() {
        RangePapers x = told("Pg901612g910822g920012g932422g902423g911623g920823g930023");
        long seed = -5;
        x.seed(seed);
        for (int i = 0; i < 100; i++) {
            seed = seed * 6364136223846793005L + 1442695040888963407L;
            int v = (int) (seed >>> 33);
            int size = 32 >> v % 6;
            due.is("drawn(1)", x.drawn(1), x.state(v / 6 % 32 / size * size, v % 6, v / 192 % 6));
        }
    }

    private static void keep() {
        due.begin("30 keep");
        RangePapers x = told(TREE);
        due.is("keep(0)", x.keep(0), 5);
        x.withdraw(0);
        due.is("keep(1)", x.keep(1), 4);
        due.is("keep(2)", x.keep(2), UNKNOWN);
        due.is("keep(-1)", x.keep(-1), UNKNOWN);
        due.is("about(10): acts stay", x.about(10), 1);
        x.withdraw(0);
        due.is("keep(1) once more", x.keep(1), 3);
        due.is("again(0)", x.again(0), 5);
        due.is("again(1)", x.again(1), 3);
        due.is("again(1)", x.again(1), 3);
    }

    private static void again() {
        due.begin("31 again");
        RangePapers x = told(TREE);
        due.is("again(0)", x.again(0), LATE);
        due.is("again(1)", x.again(1), LATE);
        due.is("again(2)", x.again(2), UNKNOWN);
        due.is("again(-1)", x.again(-1), UNKNOWN);
        x.revoke(2);
        x.setAside(1);
        x.night();
        String was = look(x);
        x.keep(1);
        due.is("again(0): 1 alone was kept", x.again(0), LATE);
        due.is("about(10): nothing changed", x.about(10), 3);
        for (int i = 0; i < 7; i++) {
            act(x, i);
        }
        x.see(0, 0, 0, 0);
        x.seed(4);
        x.wipe();
        due.is("again(1)", x.again(1), 5);
        due.is("all is as it was", look(x).equals(was) ? 1 : 0, 1);
        due.is("about(10): no acts", x.about(10), 0);
        due.is("undo()", x.undo(), LATE);
        due.is("about(11): what is seen stays", x.about(11), 1);
        due.is("about(12): the text stays", x.about(12), 0);
        due.is("seed(0): the seed stays", x.seed(0), 4);
        x.withdraw(0);
        due.is("again(1): what is kept stays", x.again(1), 5);
    }

    private static RangePapers told(String letters) {
        return Due.told(letters);
    }

    private static void fault(String letters, int want) {
        due.is("fault() of " + letters, Due.faultOf(letters), want);
    }
}
