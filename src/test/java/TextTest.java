/**
 * THE TEXT, FAULT and TREE at their boundaries: behind each beginning every letter (0 .. 255), of which just some can
 * come next; how many parts there may be; how long THE TEXT may be; the least and greatest figures that are told.
 */
public final class TextTest {
    private static final int LATE = RangePapers.LATE, FULL = RangePapers.FULL, NONE = RangePapers.NONE;
    private static final String FIGURES = "0123456789";

    private static final Due due = new Due();

    public static void main(String[] args) {
        beginning();
        papers();
        grants();
        routes();
        lengths();
        mosts();
        howManyParts();
        anyRow();
        toTheLastLetter();
        leastAndGreatestAreTold();
        tellingBeginsAnew();
        lateTreeChangesNothing();
        due.end();
    }

    /** Behind ahead just those letters can come; ends tells whether THE TEXT is a TREE with one of them. */
    private static void follows(String ahead, String letters, boolean ends) {
        for (int letter = 0; letter < 256; letter++) {
            String text = ahead + (char) letter;
            boolean can = letters.indexOf(letter) >= 0;
            int want = !can ? ahead.length() : ends ? NONE : text.length();
            fault(text, want);
            if (!can) {
                // "whatever came behind it"
                fault(text + "0", ahead.length());
                fault(text + "P", ahead.length());
                fault(text + "r0000", ahead.length());
            }
        }
    }

    /** FAULT, which is only asked: THE TEXT is as it was behind it. */
    private static void fault(String text, int want) {
        RangePapers x = new RangePapers();
        Due.write(x, text);
        due.is("fault() of " + text, x.fault(), want);
        due.is("about(12) of " + text, x.about(12), Math.min(99, text.length()));
        due.is("fault() once more of " + text, x.fault(), want);
    }

    private static void beginning() {
        due.begin("a TREE is a TEXT: P, then PARTS, none or more");
        fault("", 0);
        follows("", "P", true);
        follows("P", "pgr", false);
    }

    private static String someOf(String part, int many) {
        return "P" + part.repeat(many);
    }

    private static void papers() {
        due.begin("p, a PARENT (a PAPER told ahead of it), a RANGE, LASTS");
        for (int told = 0; told < 5; told++) {
            follows(someOf("p00009", told) + "p", FIGURES.substring(0, told + 1), false);
        }
        follows("Pp0", "0123", false);
        follows("Pp00", FIGURES, false);
        follows("Pp01", FIGURES, false);
        follows("Pp02", FIGURES, false);
        follows("Pp03", "01", false);
        follows("Pp0000", FIGURES, true);
        follows("Pp0315", FIGURES, true);
        follows("Pp00009", "pgr", false);
    }

    private static void grants() {
        due.begin("g, a figure (a PAPER that was told, or 9), an ORIGIN, a RANGE, MOST");
        for (int told = 0; told <= 5; told++) {
            follows(someOf("p00009", told) + "g", FIGURES.substring(0, told + 1) + "9", false);
        }
        follows("Pg0", "012345", false);
        follows("Pg9", "012345", false);
        follows("Pg95", "0123", false);
        follows("Pg950", FIGURES, false);
        follows("Pg951", FIGURES, false);
        follows("Pg952", FIGURES, false);
        follows("Pg953", "01", false);
        follows("Pg950000", "pgr", false);
        // A PAPER that is told behind it was not told yet.
        fault("Pg100000p00009", 2);
        fault("Pp00009g200000p00009", 8);
    }

    private static void routes() {
        due.begin("r, a RANGE, an ORIGIN");
        follows("Pr", "0123", false);
        follows("Pr0", FIGURES, false);
        follows("Pr1", FIGURES, false);
        follows("Pr2", FIGURES, false);
        follows("Pr3", "01", false);
        follows("Pr000", "012345", true);
        follows("Pr315", "012345", true);
        follows("Pr0000", "pgr", false);
    }

    private static String start(int start) {
        return "" + start / 10 + start % 10;
    }

    private static void lengths() {
        due.begin("LENGTH (a figure by which START can be divided by its SIZE)");
        for (int start = 0; start < 32; start++) {
            StringBuilder can = new StringBuilder();
            int size = 32;
            for (int length = 0; length <= 5; length++) {
                if (start % size == 0) {
                    can.append(length);
                }
                size /= 2;
            }
            follows("Pp0" + start(start), can.toString(), false);
            follows("Pg00" + start(start), can.toString(), false);
            follows("Pr" + start(start), can.toString(), false);
        }
    }

    private static void mosts() {
        due.begin("MOST (its LENGTH .. 5)");
        for (int length = 0; length <= 5; length++) {
            follows("Pg0000" + length, FIGURES.substring(length, 6), true);
            follows("Pg9500" + length, FIGURES.substring(length, 6), true);
        }
        follows("Pg00315", "5", true);
    }

    private static void howManyParts() {
        due.begin("so a sixth p, a ninth g, a seventh r");
        String p = "p00009";
        String g = "g900005";
        String r = "r0000";
        follows(someOf(p, 4), "pgr", false);
        follows(someOf(p, 5), "gr", false);
        follows(someOf(g, 7), "pgr", false);
        follows(someOf(g, 8), "pr", false);
        follows(someOf(r, 5), "pgr", false);
        follows(someOf(r, 6), "pg", false);
        follows(someOf(p, 5) + g.repeat(8), "r", false);
        follows(someOf(p, 5) + r.repeat(6), "g", false);
        follows(someOf(g, 8) + r.repeat(6), "p", false);
        follows(someOf(p, 4) + g.repeat(8) + p, "r", false);
        fault(someOf(p, 5) + p, 31);
        fault(someOf(g, 8) + g, 57);
        fault(someOf(r, 6) + r, 31);
        toldWith(someOf(p, 5), 6, 0, 0);
        toldWith(someOf(g, 8), 1, 8, 0);
        toldWith(someOf(r, 6), 1, 0, 6);
    }

    private static void toldWith(String text, int papers, int grants, int routes) {
        RangePapers x = new RangePapers();
        Due.write(x, text);
        due.is("tree() of " + text, x.tree(), papers);
        due.is("about(0)", x.about(0), papers);
        due.is("about(1)", x.about(1), grants);
        due.is("about(2)", x.about(2), routes);
    }

    private static void anyRow() {
        due.begin("PARTS in any row");
        RangePapers x = Due.told("Pr0000g911613p01619r3155g121613p10007g000000");
        due.same("PARTS as they were told", Run.books(x),
                "g 9 1 16 1 3 1 g 1 2 16 1 3 1 g 0 0 0 0 0 1 r 0 0 0 2 0 r 31 5 5 0 1 ");
        due.is("paper(2, 0)", x.paper(2, 0), 1);
        due.is("paper(2, 3)", x.paper(2, 3), 7);
        due.is("paper(1, 1)", x.paper(1, 1), 16);
    }

    private static void toTheLastLetter() {
        due.begin("THE TEXT is letters (never more than 99)");
        String longest = "P" + "p00009".repeat(4) + "g900005".repeat(7) + "r0000".repeat(5);
        due.is("letters", longest.length(), 99);
        RangePapers x = new RangePapers();
        for (int i = 0; i < 99; i++) {
            due.is("write() of letter " + i, x.write(longest.charAt(i)), i + 1);
        }
        due.is("write() of one more", x.write('r'), FULL);
        due.is("fault()", x.fault(), NONE);
        due.is("tree()", x.tree(), 5);
        due.is("about(1)", x.about(1), 7);
        due.is("about(2)", x.about(2), 5);
        due.is("about(12)", x.about(12), 99);
        due.is("wipe()", x.wipe(), 99);
        due.is("write()", x.write('P'), 1);
        due.begin("FAULT: its length set aside");
        // No TREE of 99 letters begins so, but one would, if more letters might come.
        String begun = longest.substring(0, 94);
        fault(begun + "g", 95);
        fault(begun + "g9000", 99);
        fault(begun + "p0000", 99);
        fault(begun + "p000:", 98);
        fault(longest.substring(0, 98), 98);
        fault(longest.substring(0, 98) + "5", NONE);
        fault(longest.substring(0, 98) + "6", 98);
        fault(begun.substring(0, 93) + "0" + "r0000", NONE);
        fault("P" + "x".repeat(98), 1);
        fault("x".repeat(99), 0);
    }

    private static void leastAndGreatestAreTold() {
        due.begin("least and greatest figures in THE TREE");
        RangePapers x = Due.told("Pp00000p13159p03159g003155g950000g910055r3155r0000");
        due.is("about(0)", x.about(0), 4);
        int[][] papers = {{0, 0, 0, 0, 1}, {1, 31, 5, 9, 1}, {0, 31, 5, 9, 1}};
        for (int paper = 1; paper < 4; paper++) {
            for (int what = 0; what < 5; what++) {
                due.is("paper(" + paper + ", " + what + ")", x.paper(paper, what), papers[paper - 1][what]);
            }
        }
        due.same("GRANTS and ROUTES", Run.books(x),
                "g 0 0 31 5 5 1 g 9 5 0 0 0 1 g 9 1 0 5 5 1 r 31 5 5 0 2 r 0 0 0 0 0 ");
    }

    private static void tellingBeginsAnew() {
        due.begin("when THE TREE is told, THE DAY is 0, nothing is REVOKED, nothing SET ASIDE");
        Run run = Worlds.full().call("wipe").write(Worlds.SOME_TREE).call("tree");
        RangePapers x = run.made();
        int[] want = {4, 5, 5, 0, 0, 0b0111, 0, 0b10011, 0b00100, 8, 0, 6, Worlds.SOME_TREE.length()};
        for (int what = 0; what < want.length; what++) {
            due.is("about(" + what + ")", x.about(what), want[what]);
        }
        due.is("undo(): no ACTS", x.undo(), LATE);
        due.is("again(0): what was kept is gone", x.again(0), LATE);
        due.is("again(1): what was kept is gone", x.again(1), LATE);
        due.is("seed(0): THE SEED stays", x.seed(0), -77);
        due.is("fault(): THE TEXT stays", x.fault(), NONE);
        due.is("tree() once more", x.tree(), 4);
        due.is("paper(4, 0): the others are gone", x.paper(4, 0), RangePapers.UNKNOWN);
        due.is("which(2): what is SEEN stays", x.which(2), 0);
        RangePapers y = Worlds.full().tell("P").made();
        int[] none = {1, 0, 0, 0, 0, 1, 0, 0, 0, 32, 0, 6, 1};
        for (int what = 0; what < none.length; what++) {
            due.is("about(" + what + ") of P", y.about(what), none[what]);
        }
        due.is("keep(1) behind it", y.keep(1), 0);
        due.is("again(0): only 1 is kept now", y.again(0), LATE);
        due.is("again(1)", y.again(1), 0);
    }

    private static void lateTreeChangesNothing() {
        due.begin("a tree() that is LATE changes nothing");
        String[] texts = {"", "p", "Px", "Pp0000", "Pp00000Pr0000", "Pg000000r000", "Pp00009g200000", "Pr0000x"};
        for (Run world : new Run[] {Worlds.blank(), Worlds.some(), Worlds.full()}) {
            for (String text : texts) {
                Run run = world.copy().call("wipe").write(text);
                due.is("tree() of " + text, run.made().tree(), LATE);
                due.same("all behind tree() of " + text, run.copy().call("tree").all(), run.all());
            }
        }
    }
}
