/**
 * "REFUSALS, of several the first that a call names (in just that row) .. What is refused changes nothing."
 * For each call: the last inputs on this side of each boundary, which are not refused, and the first ones
 * beyond it, which are; where two refusals meet, the first that the call names. After each refused call all that
 * can be seen is held against an object on which the call was not made.
 */
public final class RefusalTest {
    private static final int UNKNOWN = RangePapers.UNKNOWN, BAD = RangePapers.BAD, LATE = RangePapers.LATE;
    private static final int FULL = RangePapers.FULL, NONE = RangePapers.NONE;
    private static final int LEAST = Integer.MIN_VALUE, GREATEST = Integer.MAX_VALUE;
    /** Numbers that are none of PAPERS, GRANTS, ROUTES, PLACES, ORIGINS, SLOTS or of what can be asked. */
    private static final int[] FAR = {-1, 32, 33, 64, 256, -9, -32, LEAST, GREATEST};

    private static final Due due = new Due();

    private static Run world;
    private static String before;

    public static void main(String[] args) {
        Run[] worlds = {Worlds.blank(), Worlds.some(), Worlds.full()};
        String[] names = {"a new object", "some of all", "as much as there may be"};
        for (int i = 0; i < worlds.length; i++) {
            world = worlds[i];
            before = world.all();
            due.begin(names[i]);
            theWorldIsAsTold(i);
            farNumbers();
            ranges();
            switch (i) {
                case 0: blank(); break;
                case 1: someTree(); someActs(); someAsked(); someRest(); break;
                default: fullTree(); fullActs(); fullAsked(); fullRest(); break;
            }
        }
        due.end();
    }

    /** The call is refused so, and all is as if it had not been made. */
    private static void refused(int want, String name, long... arguments) {
        Call call = new Call(name, arguments);
        Run with = world.copy().call(call);
        due.is(call.toString(), call.on(world.made()), want);
        due.same("all that can be seen after " + call, with.all(), before);
    }

    private static void taken(long want, String name, long... arguments) {
        Call call = new Call(name, arguments);
        due.is(call.toString(), call.on(world.made()), want);
    }

    private static void theWorldIsAsTold(int i) {
        int[] papers = {1, 4, 6};
        int[] grants = {0, 5, 8};
        int[] routes = {0, 5, 6};
        int[] acts = {0, 6, 14};
        int[] seen = {0, 2, 6};
        int[] letters = {0, Worlds.SOME_TREE.length(), 99};
        taken(papers[i], "about", 0);
        taken(grants[i], "about", 1);
        taken(routes[i], "about", 2);
        taken(acts[i], "about", 10);
        taken(seen[i], "about", 11);
        taken(letters[i], "about", 12);
    }

    /** Numbers far off are refused by each call that takes one, also those that a shift would wrap around. */
    private static void farNumbers() {
        for (int far : FAR) {
            refused(BAD, "about", far);
            refused(BAD, "paper", 0, far);
            for (String name : new String[] {"withdraw", "tear", "revoke", "setAside", "lost", "which", "keep", "again"}) {
                refused(UNKNOWN, name, far);
            }
            for (String name : new String[] {"paper", "grant", "route"}) {
                refused(UNKNOWN, name, far, 0);
                refused(UNKNOWN, name, far, far);
            }
            refused(UNKNOWN, "share", far, 1);
            refused(UNKNOWN, "share", far, 0);
            refused(UNKNOWN, "goes", far, 0);
            refused(BAD, "goes", 0, far);
            refused(UNKNOWN, "theft", far, 0, 0);
            refused(UNKNOWN, "theft", 0, far, 0);
            refused(BAD, "theft", 0, 0, far);
            refused(UNKNOWN, "state", 0, 0, far);
            refused(UNKNOWN, "announce", 0, 0, far);
            refused(UNKNOWN, "allow", far, 0, 0, 0, 0);
            refused(UNKNOWN, "allow", 0, far, 0, 0, 0);
            refused(BAD, "allow", 0, 0, 0, 0, far);
            refused(UNKNOWN, "see", 0, 0, far, 0);
            refused(BAD, "see", 0, 0, 0, far);
            refused(BAD, "judge", far, 0);
            refused(BAD, "chance", far, 0, 1);
            refused(BAD, "chance", 0, far, 0);
        }
        for (int far : new int[] {-1, 0, 41, 64, -32, LEAST, GREATEST}) {
            refused(BAD, "drawn", far);
        }
        for (int far : new int[] {-1, 256, 336, -176, LEAST, GREATEST}) {
            refused(BAD, "write", far);
        }
    }

    /** "A RANGE that is asked for by start and length is BAD, if it is none", each call of it. */
    private static void ranges() {
        int[][] none = {{1, 0}, {16, 0}, {31, 0}, {32, 0}, {8, 1}, {17, 1}, {32, 1}, {4, 2}, {12, 2}, {2, 3}, {30, 3},
            {1, 4}, {31, 4}, {32, 4}, {32, 5}, {-1, 5}, {-2, 4}, {-16, 1}, {-32, 0}, {64, 0}, {0, -1}, {0, 6}, {0, 32},
            {0, 33}, {0, -32}, {0, LEAST}, {0, GREATEST}, {LEAST, 0}, {LEAST, 5}, {GREATEST, 5}};
        for (int[] r : none) {
            refused(BAD, "announce", r[0], r[1], 0);
            refused(BAD, "announce", r[0], r[1], 6);
            refused(BAD, "allow", 0, 0, r[0], r[1], 5);
            refused(BAD, "allow", 9, 0, r[0], r[1], Math.max(0, Math.min(5, r[1])));
            refused(UNKNOWN, "allow", 0, 6, r[0], r[1], 5);
            refused(UNKNOWN, "allow", 7, 0, r[0], r[1], 5);
            refused(BAD, "state", r[0], r[1], 0);
            refused(BAD, "state", r[0], r[1], 6);
            refused(BAD, "see", r[0], r[1], 0, 0);
            refused(BAD, "see", r[0], r[1], 6, 0);
        }
    }

    private static void blank() {
        refused(LATE, "tree");
        refused(LATE, "undo");
        refused(LATE, "again", 0);
        refused(LATE, "again", 1);
        refused(UNKNOWN, "again", 2);
        refused(UNKNOWN, "paper", 1, 0);
        refused(UNKNOWN, "paper", 9, 0);
        refused(UNKNOWN, "grant", 0, 0);
        refused(UNKNOWN, "grant", 0, 6);
        refused(UNKNOWN, "route", 0, 0);
        refused(UNKNOWN, "route", 0, 5);
        refused(UNKNOWN, "withdraw", 0);
        refused(UNKNOWN, "tear", 0);
        refused(UNKNOWN, "revoke", 0);
        refused(UNKNOWN, "revoke", 1);
        refused(UNKNOWN, "lost", 0);
        refused(UNKNOWN, "lost", 1);
        refused(UNKNOWN, "which", 0);
        refused(UNKNOWN, "share", 0, 1);
        refused(UNKNOWN, "allow", 1, 0, 0, 0, 0);
        taken(0, "allow", 0, 0, 0, 0, 0);
        taken(0, "allow", 9, 5, 31, 5, 5);
        taken(0, "announce", 31, 5, 5);
        taken(NONE, "goes", 0, 0);
        taken(NONE, "paper", 0, 0);
        taken(NONE, "paper", 0, 3);
        taken(0, "wipe");
        taken(0, "unsee");
        taken(0, "fault");
        taken(0, "keep", 0);
        taken(0, "keep", 1);
        taken(1, "chance", 0, 0, 1);
        taken(0, "chance", 1, 10, 1);
        taken(1, "write", 0);
        taken(1, "write", 255);
    }

    private static void someTree() {
        taken(Worlds.SOME_TREE.length(), "about", 12);
        refused(BAD, "about", 13);
        taken(2, "paper", 3, 0);
        taken(0, "paper", 3, 4);
        refused(UNKNOWN, "paper", 4, 0);
        refused(BAD, "paper", 3, 5);
        refused(UNKNOWN, "paper", 4, 5);
        refused(UNKNOWN, "paper", 9, 0);
        taken(2, "grant", 4, 0);
        taken(0, "grant", 4, 5);
        refused(BAD, "grant", 4, 6);
        refused(BAD, "grant", 4, -1);
        refused(UNKNOWN, "grant", 5, 0);
        refused(UNKNOWN, "grant", 5, 6);
        refused(UNKNOWN, "grant", 5, -1);
        taken(8, "route", 4, 0);
        taken(2, "route", 4, 4);
        refused(BAD, "route", 4, 5);
        refused(BAD, "route", 4, -1);
        refused(UNKNOWN, "route", 5, 0);
        refused(UNKNOWN, "route", 5, 5);
        refused(UNKNOWN, "route", 5, -1);
    }

    private static void someActs() {
        taken(4, "withdraw", 4);
        refused(UNKNOWN, "withdraw", 5);
        taken(4, "tear", 4);
        refused(UNKNOWN, "tear", 5);
        taken(1, "revoke", 1);
        taken(0, "revoke", 3);
        refused(UNKNOWN, "revoke", 0);
        refused(UNKNOWN, "revoke", 4);
        refused(UNKNOWN, "revoke", 9);
        taken(1, "setAside", 0);
        taken(0, "setAside", 5);
        refused(UNKNOWN, "setAside", 6);
        taken(5, "undo");
        taken(5, "announce", 31, 5, 5);
        taken(5, "announce", 0, 0, 0);
        refused(UNKNOWN, "announce", 0, 0, 6);
        refused(BAD, "announce", 0, 6, 6);
        taken(5, "allow", 3, 5, 31, 5, 5);
        taken(5, "allow", 9, 0, 0, 3, 3);
        refused(UNKNOWN, "allow", 4, 0, 0, 0, 0);
        refused(UNKNOWN, "allow", 8, 0, 0, 0, 0);
        refused(UNKNOWN, "allow", 10, 0, 0, 0, 0);
        refused(UNKNOWN, "allow", 3, 6, 0, 0, 0);
        refused(UNKNOWN, "allow", 4, 6, 0, 0, 0);
        refused(UNKNOWN, "allow", 4, 0, 0, 3, 2);
        refused(UNKNOWN, "allow", 3, 6, 0, 3, 6);
        refused(BAD, "allow", 3, 5, 0, 3, 2);
        refused(BAD, "allow", 3, 5, 0, 3, 6);
        refused(BAD, "allow", 3, 5, 0, 5, 4);
        refused(BAD, "allow", 3, 5, 0, 0, -1);
    }

    private static void someAsked() {
        taken(0, "state", 31, 5, 5);
        refused(UNKNOWN, "state", 31, 5, 6);
        refused(BAD, "state", 31, 4, 6);
        taken(NONE, "goes", 31, 3);
        refused(UNKNOWN, "goes", 32, 3);
        refused(BAD, "goes", 31, 4);
        refused(UNKNOWN, "goes", 32, 4);
        taken(NONE, "theft", 31, 5, 3);
        refused(UNKNOWN, "theft", 32, 5, 3);
        refused(UNKNOWN, "theft", 31, 6, 3);
        refused(BAD, "theft", 31, 5, 4);
        refused(UNKNOWN, "theft", 32, 5, 4);
        refused(UNKNOWN, "theft", 31, 6, 4);
        taken(0, "lost", 3);
        refused(UNKNOWN, "lost", 4);
        refused(UNKNOWN, "lost", 0);
        refused(UNKNOWN, "lost", 9);
        taken(0, "judge", 1, 0);
        taken(0, "judge", 4, 0);
        refused(BAD, "judge", 0, 0);
        refused(BAD, "judge", 5, 0);
        long beyond = 1;
        for (int n = 1; n <= 4; n++) {
            beyond *= 10000;
            taken(0, "judge", n, beyond - 1);
            refused(BAD, "judge", n, beyond);
            refused(BAD, "judge", n, -1);
            refused(BAD, "judge", n, Long.MIN_VALUE);
            refused(BAD, "judge", n, Long.MAX_VALUE);
        }
        // What an int would make of it is a doing that can be.
        refused(BAD, "judge", 1, (1L << 32) + 2000);
        refused(BAD, "judge", 0, 2000);
        refused(BAD, "judge", 5, 2000);
    }

    private static void someRest() {
        taken(3, "see", 31, 5, 5, 2);
        taken(3, "see", 0, 0, 0, 0);
        refused(BAD, "see", 31, 5, 5, 3);
        refused(UNKNOWN, "see", 31, 5, 6, 2);
        refused(BAD, "see", 31, 5, 6, 3);
        refused(BAD, "see", 31, 5, 6, -1);
        taken(2, "unsee");
        refused(UNKNOWN, "which", 5);
        refused(UNKNOWN, "share", 5, 1);
        refused(UNKNOWN, "share", 5, 0);
        taken(0, "chance", 6, 10, 1);
        taken(1, "chance", 6, 10, 0);
        refused(BAD, "chance", 7, 10, 1);
        refused(BAD, "chance", 6, 11, 1);
        refused(BAD, "chance", 7, 11, 0);
        taken(5, "keep", 0);
        taken(5, "keep", 1);
        refused(UNKNOWN, "keep", 2);
        taken(5, "again", 0);
        refused(LATE, "again", 1);
        refused(UNKNOWN, "again", 2);
        taken(NONE, "fault");
        taken(4, "tree");
    }

    private static void fullTree() {
        refused(FULL, "write", 0);
        refused(FULL, "write", 255);
        refused(FULL, "write", 'P');
        refused(BAD, "write", 256);
        refused(BAD, "write", -1);
        taken(99, "wipe");
        taken(97, "fault");
        refused(LATE, "tree");
        taken(4, "paper", 5, 0);
        refused(UNKNOWN, "paper", 6, 0);
        refused(BAD, "paper", 5, 5);
        refused(UNKNOWN, "paper", 6, 5);
        taken(2, "grant", 7, 0);
        refused(UNKNOWN, "grant", 8, 0);
        refused(UNKNOWN, "grant", 9, 0);
        refused(BAD, "grant", 7, 6);
        refused(UNKNOWN, "grant", 8, 6);
        taken(31, "route", 5, 0);
        refused(UNKNOWN, "route", 6, 0);
        refused(BAD, "route", 5, 5);
        refused(UNKNOWN, "route", 6, 5);
    }

    private static void fullActs() {
        refused(FULL, "announce", 0, 0, 0);
        refused(FULL, "announce", 31, 5, 5);
        refused(UNKNOWN, "announce", 0, 0, 6);
        refused(UNKNOWN, "announce", 0, 0, -1);
        refused(BAD, "announce", 1, 0, 0);
        refused(BAD, "announce", 1, 0, 6);
        refused(FULL, "allow", 0, 0, 0, 0, 0);
        refused(FULL, "allow", 5, 5, 31, 5, 5);
        refused(FULL, "allow", 9, 0, 0, 0, 5);
        refused(UNKNOWN, "allow", 6, 0, 0, 0, 0);
        refused(UNKNOWN, "allow", 8, 0, 0, 0, 0);
        refused(UNKNOWN, "allow", 5, 6, 0, 0, 0);
        refused(BAD, "allow", 5, 5, 1, 0, 0);
        refused(BAD, "allow", 5, 5, 0, 0, 6);
        refused(BAD, "allow", 5, 5, 0, 2, 1);
        refused(UNKNOWN, "allow", 6, 0, 1, 0, 0);
        refused(UNKNOWN, "allow", 0, 6, 0, 0, 6);
        refused(LATE, "night");
        taken(5, "withdraw", 5);
        refused(UNKNOWN, "withdraw", 6);
        taken(7, "tear", 7);
        refused(UNKNOWN, "tear", 8);
        taken(1, "revoke", 5);
        refused(UNKNOWN, "revoke", 6);
        refused(UNKNOWN, "revoke", 0);
        taken(1, "setAside", 5);
        refused(UNKNOWN, "setAside", 6);
        taken(13, "undo");
    }

    private static void fullAsked() {
        taken(NONE, "goes", 0, 2);
        refused(UNKNOWN, "goes", 32, 0);
        refused(BAD, "goes", 31, 4);
        refused(UNKNOWN, "goes", 32, 4);
        taken(0, "theft", 0, 0, 0);
        refused(UNKNOWN, "theft", 32, 6, 4);
        refused(BAD, "theft", 0, 0, 4);
        taken(0b010000, "lost", 4);
        taken(0, "lost", 5);
        refused(UNKNOWN, "lost", 6);
        refused(BAD, "judge", 4, 10000000000000000L);
        taken(0, "judge", 1, 2000);
    }

    private static void fullRest() {
        refused(FULL, "see", 0, 0, 0, 0);
        refused(FULL, "see", 31, 5, 5, 2);
        refused(BAD, "see", 1, 0, 0, 0);
        refused(BAD, "see", 0, 0, 0, 3);
        refused(UNKNOWN, "see", 0, 0, 6, 0);
        refused(BAD, "see", 0, 0, 6, 3);
        taken(6, "unsee");
        refused(UNKNOWN, "which", 8);
        refused(UNKNOWN, "share", 8, 0);
        refused(BAD, "chance", 7, 0, 0);
        refused(BAD, "chance", 0, 11, 0);
        refused(UNKNOWN, "keep", 2);
        refused(UNKNOWN, "again", 2);
        taken(2, "again", 0);
        taken(6, "again", 1);
    }
}
