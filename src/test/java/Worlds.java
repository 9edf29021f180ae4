/** What the tests of refusals and of questions begin with. */
final class Worlds {
    /** Two PAPERS that STAND and one that does not, five GRANTS, five ROUTES of all three states. */
    static final String SOME_TREE = "Pp00013p10829p21629"
            + "g110012g220834g932423g341635g220015" + "r0821r0832r0852r1634r2433";

    /** As many PAPERS and GRANTS as there may be, and two ROUTES: 97 letters. */
    static final String FULL_TREE = "Pp00019p10829p21235p01619p43159"
            + "g110012g220834g932423g341235g451613g503155g000000g950055" + "r0821r3150";

    private Worlds() { }

    static Run blank() {
        return new Run();
    }

    /** PAPERS 0 .. 3, GRANTS 0 .. 4, ROUTES 0 .. 4, DAY 1, slot 0 alone is kept, the text is a TREE. */
    static Run some() {
        return new Run().tell(SOME_TREE).call("setAside", 4).call("keep", 0).call("revoke", 3).call("night")
                .call("setAside", 5).call("withdraw", 1).call("announce", 8, 3, 1)
                .call("see", 8, 3, 1, 0).call("see", 28, 3, 3, 2).call("seed", 77);
    }

    /** As much of all as there may be: PAPERS, GRANTS, ROUTES, ACTS (of each kind), SEEN, letters, nights, SLOTS. */
    static Run full() {
        return new Run().tell(FULL_TREE).write("xx").call("keep", 0).times(9, "night")
                .call("announce", 8, 3, 2).call("announce", 8, 5, 2).call("announce", 12, 3, 4)
                .call("announce", 16, 3, 5).call("keep", 1)
                .call("withdraw", 1).call("announce", 31, 5, 3).call("tear", 0).call("allow", 2, 1, 8, 2, 3)
                .call("revoke", 2).call("setAside", 1)
                .call("see", 8, 3, 2, 1).call("see", 16, 3, 5, 2).call("see", 16, 4, 5, 0).call("see", 0, 5, 5, 2)
                .call("see", 24, 3, 3, 2).call("see", 24, 4, 3, 0).call("seed", -77);
    }
}
