import java.util.ArrayList;
import java.util.List;
import java.util.Random;

/**
 * Runs of calls drawn by fixed seeds, each answered by RangePapers and by the Oracle. With a number as its
 * argument it makes as many runs.
 */
public final class OracleTest {
    private static final int RUNS = 400;
    private static final int CALLS = 512;
    private static final String[] NAMES = {"write", "wipe", "fault", "tree", "about", "paper", "grant", "route",
        "announce", "withdraw", "allow", "tear", "revoke", "night", "setAside", "undo", "state", "goes", "theft",
        "lost", "judge", "see", "unsee", "which", "share", "chance", "seed", "drawn", "keep", "again"};
    /** How often each is called, in the row of NAMES. */
    private static final int[] OFTEN = {2, 1, 3, 1, 30, 12, 12, 12,
        20, 8, 20, 5, 12, 8, 12, 16, 20, 20, 20,
        10, 40, 16, 3, 16, 8, 8, 2, 3, 4, 4};

    private final Random random;
    private final RangePapers x = new RangePapers();
    private final Oracle oracle = new Oracle();
    private final List<String> told = new ArrayList<>();
    private int left = CALLS;
    private boolean wrong;

    private OracleTest(long seed) {
        random = new Random(seed);
    }

    public static void main(String[] args) {
        int runs = args.length == 0 ? RUNS : Integer.parseInt(args[0]);
        int wrongRuns = 0;
        for (int run = 0; run < runs && wrongRuns < 5; run++) {
            OracleTest test = new OracleTest(run);
            test.go();
            if (test.wrong) {
                wrongRuns++;
                System.out.println("run " + run + ": " + String.join("; ", test.told));
            }
        }
        System.out.println(wrongRuns == 0 ? "all runs answer as the oracle does" : wrongRuns + " runs do not");
        if (wrongRuns != 0) {
            System.exit(1);
        }
    }

    private void go() {
        while (left > 0 && !wrong) {
            if (random.nextInt(100) == 0 || left == CALLS && random.nextInt(10) != 0) {
                tellTree();
            } else if (random.nextInt(60) == 0) {
                undoAll();
            } else {
                String name = draw();
                call(name, arguments(name));
            }
        }
    }

    /** As many acts as can be undone and some more, looked at when all are. */
    private void undoAll() {
        for (int i = random.nextInt(16); i < 15; i++) {
            String[] acts = {"announce", "withdraw", "allow", "tear", "revoke", "night", "setAside"};
            String name = acts[random.nextInt(acts.length)];
            call(name, arguments(name));
        }
        for (int i = 0; i < 15; i++) {
            call("undo", new long[0]);
        }
        for (int what = 1; what < 11; what++) {
            call("about", new long[] {what});
        }
    }

    private String draw() {
        int sum = 0;
        for (int often : OFTEN) {
            sum += often;
        }
        int at = random.nextInt(sum);
        int i = 0;
        while (at >= OFTEN[i]) {
            at -= OFTEN[i];
            i++;
        }
        return NAMES[i];
    }

    // ---- trees

    private void tellTree() {
        call("wipe", new long[0]);
        String text = treeText();
        for (int i = 0; i < text.length() && left > 0; i++) {
            call("write", new long[] {text.charAt(i)});
            if (random.nextInt(25) == 0) {
                call("fault", new long[0]);
            }
        }
        call("fault", new long[0]);
        call("tree", new long[0]);
    }

    private String treeText() {
        StringBuilder text = new StringBuilder("P");
        int papers = 1;
        int parts = random.nextInt(16);
        for (int i = 0; i < parts && text.length() < 93; i++) {
            int kind = random.nextInt(3);
            if (kind == 0) {
                text.append('p').append(random.nextInt(papers)).append(rangeText()).append(random.nextInt(10));
                papers++;
            } else if (kind == 1) {
                String range = rangeText();
                int length = range.charAt(2) - '0';
                text.append('g').append(random.nextInt(4) == 0 ? 9 : random.nextInt(papers)).append(random.nextInt(3))
                        .append(range).append(length + random.nextInt(6 - length));
            } else {
                text.append('r').append(rangeText()).append(random.nextInt(3));
            }
        }
        if (random.nextInt(3) == 0) {
            text.setCharAt(random.nextInt(text.length()), "0123456789Ppgr\0x".charAt(random.nextInt(16)));
        }
        if (random.nextInt(6) == 0) {
            text.setLength(1 + random.nextInt(text.length()));
        }
        return text.toString();
    }

    private String rangeText() {
        int[] range = range();
        return "" + range[0] / 10 + range[0] % 10 + range[1];
    }

    /** Mostly in the first half, and of small lengths, so that RANGES meet. */
    private int[] range() {
        int length = Math.min(random.nextInt(6), random.nextInt(6));
        int size = 32 >> length;
        int place = random.nextInt(random.nextBoolean() ? 32 : 12);
        return new int[] {place / size * size, length};
    }

    // ---- arguments

    private long[] arguments(String name) {
        switch (name) {
            case "write": return new long[] {random.nextInt(20) == 0 ? odd() : "Ppgr0123456789".charAt(random.nextInt(14))};
            case "about": return new long[] {number(13)};
            case "paper": return new long[] {number(6), number(5)};
            case "grant": return new long[] {number(8), number(6)};
            case "route": return new long[] {number(6), number(5)};
            case "announce": return ranged(number(3));
            case "withdraw": return new long[] {number(6)};
            case "allow": return allowed();
            case "tear": return new long[] {number(8)};
            case "revoke": return new long[] {number(6)};
            case "setAside": return new long[] {number(6)};
            case "state": return ranged(number(3));
            case "goes": return new long[] {number(32), number(4)};
            case "theft": return new long[] {number(32), number(4), number(4)};
            case "lost": return new long[] {number(6)};
            case "judge": return judged();
            case "see": return ranged(number(3), number(3));
            case "which": return new long[] {number(8)};
            case "share": return new long[] {number(8), random.nextInt(2)};
            case "chance": return new long[] {number(7), number(11), random.nextInt(2)};
            case "seed": return new long[] {random.nextLong()};
            case "drawn": return new long[] {number(41)};
            case "keep": return new long[] {number(2)};
            case "again": return new long[] {number(2)};
            default: return new long[0];
        }
    }

    private int odd() {
        int[] all = {-1, Integer.MIN_VALUE, Integer.MAX_VALUE, 32, 33, 256, 255, -9, 9, 6, 8, 14, 64};
        return all[random.nextInt(all.length)];
    }

    private int number(int bound) {
        return random.nextInt(25) == 0 ? odd() : random.nextInt(bound);
    }

    private long[] ranged(int... more) {
        int[] range = range();
        long[] all = new long[2 + more.length];
        all[0] = random.nextInt(20) == 0 ? number(32) : range[0];
        all[1] = random.nextInt(20) == 0 ? number(6) : range[1];
        for (int i = 0; i < more.length; i++) {
            all[2 + i] = more[i];
        }
        return all;
    }

    private long[] allowed() {
        long[] range = ranged();
        int length = (int) Math.max(0, Math.min(5, range[1]));
        int paper = random.nextInt(4) == 0 ? 9 : number(4);
        int most = random.nextInt(10) == 0 ? number(6) : length + random.nextInt(6 - length);
        return new long[] {paper, number(3), range[0], range[1], most};
    }

    private long[] judged() {
        int n = random.nextInt(25) == 0 ? number(6) : 1 + random.nextInt(4);
        long row = 0;
        for (int i = 0; i < Math.max(0, Math.min(4, n)); i++) {
            row = row * 10000 + doing();
        }
        return new long[] {n, random.nextInt(30) == 0 ? random.nextLong() : row};
    }

    private int doing() {
        int kind = 1 + random.nextInt(8);
        int last = random.nextInt(15) == 0 ? random.nextInt(100) : 0;
        switch (kind) {
            case 2: return 2000 + last;
            case 4: return 4000 + 100 * random.nextInt(6) + random.nextInt(3) + last;
            case 5: return 5000 + 100 * random.nextInt(4) + random.nextInt(random.nextInt(5) == 0 ? 100 : 32);
            case 6:
            case 7: return 1000 * kind + 100 * random.nextInt(6) + random.nextInt(2) + last;
            default: return random.nextInt(40) == 0 ? random.nextInt(10000) : 1000 * kind + 100 * random.nextInt(6) + last;
        }
    }

    // ---- calls

    private void call(String name, long[] a) {
        if (left == 0 || wrong) {
            return;
        }
        left--;
        Call call = new Call(name, a);
        long got = call.on(x);
        long want = call.on(oracle);
        told.add(call + " " + got);
        if (got != want) {
            told.add("due is " + want);
            wrong = true;
        }
    }
}
