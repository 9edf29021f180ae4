/** Counts the answers that are not the ones that are due. */
final class Due {
    private int wrong;
    private String about = "";

    void begin(String name) {
        about = name;
    }

    void is(String call, long got, long want) {
        if (got != want) {
            wrong++;
            System.out.println(about + ": " + call + " answered " + got + ", due is " + want);
        }
    }

    void same(String what, String got, String want) {
        if (!got.equals(want)) {
            wrong++;
            System.out.println(about + ": " + what + " is\n" + got + "\ndue is\n" + want);
        }
    }

    void end() {
        System.out.println(wrong == 0 ? "all answers are as due" : wrong + " answers are not as due");
        if (wrong != 0) {
            System.exit(1);
        }
    }

    static void write(RangePapers x, String letters) {
        for (int i = 0; i < letters.length(); i++) {
            x.write(letters.charAt(i));
        }
    }

    /** A new object on which a TREE has been told. */
    static RangePapers told(String letters) {
        RangePapers x = new RangePapers();
        write(x, letters);
        if (x.tree() < 0) {
            throw new IllegalStateException("no tree: " + letters + ", fault " + x.fault());
        }
        return x;
    }

    static int faultOf(String letters) {
        RangePapers x = new RangePapers();
        write(x, letters);
        return x.fault();
    }
}
