import java.util.ArrayList;
import java.util.List;

/**
 * A run of calls that can be made on as many new objects as are wanted. So all that it leaves can be seen, that
 * too which can be seen but once: ACTS by undoing them, SLOTS by going on from them.
 */
final class Run {
    private final List<Call> calls = new ArrayList<>();

    Run call(String name, long... arguments) {
        calls.add(new Call(name, arguments));
        return this;
    }

    Run call(Call call) {
        calls.add(call);
        return this;
    }

    Run times(int many, String name, long... arguments) {
        for (int i = 0; i < many; i++) {
            call(name, arguments);
        }
        return this;
    }

    Run write(String letters) {
        for (int i = 0; i < letters.length(); i++) {
            call("write", letters.charAt(i));
        }
        return this;
    }

    /** Tells a TREE. */
    Run tell(String letters) {
        return call("wipe").write(letters).call("tree");
    }

    Run copy() {
        Run copy = new Run();
        copy.calls.addAll(calls);
        return copy;
    }

    RangePapers made() {
        return madeOn(new RangePapers());
    }

    /** Makes the calls on an object, be it one of RangePapers or the Oracle. */
    <T> T madeOn(T asked) {
        for (Call call : calls) {
            call.on(asked);
        }
        return asked;
    }

    /** All that can be seen of what the run leaves. */
    String all() {
        return "now: " + now(made()) + "\nacts: " + undone() + "\nslot 0: " + goneOnFrom(0) + "\nslot 1: "
                + goneOnFrom(1) + "\nthe text: " + text() + "\nseen: " + seen() + "\nseed: " + made().seed(0);
    }

    private String undone() {
        RangePapers x = made();
        StringBuilder all = new StringBuilder();
        int left = x.about(10);
        while (left > 0) {
            left = x.undo();
            all.append(left).append(": ");
            for (int what = 1; what < 10; what++) {
                all.append(x.about(what)).append(' ');
            }
        }
        return all.append(x.undo()).append(' ').append(now(x)).toString();
    }

    private String goneOnFrom(int slot) {
        RangePapers x = made();
        return x.again(slot) + " " + now(x);
    }

    private String text() {
        RangePapers x = made();
        return x.fault() + " " + x.tree() + " " + x.wipe() + " " + now(x);
    }

    private String seen() {
        RangePapers x = made();
        StringBuilder all = new StringBuilder();
        for (int grant = 0; grant < 8; grant++) {
            all.append(x.which(grant)).append(' ');
        }
        return all.append(x.unsee()).toString();
    }

    /** What can be seen at once. */
    static String now(RangePapers x) {
        StringBuilder all = new StringBuilder();
        for (int what = 0; what < 13; what++) {
            all.append(x.about(what)).append(' ');
        }
        for (int i = 0; i < x.about(0); i++) {
            all.append("p ");
            for (int what = 0; what < 5; what++) {
                all.append(x.paper(i, what)).append(' ');
            }
        }
        return all.append(books(x)).toString();
    }

    /** GRANTS and ROUTES. */
    static String books(RangePapers x) {
        StringBuilder all = new StringBuilder();
        for (int i = 0; i < x.about(1); i++) {
            all.append("g ");
            for (int what = 0; what < 6; what++) {
                all.append(x.grant(i, what)).append(' ');
            }
        }
        for (int i = 0; i < x.about(2); i++) {
            all.append("r ");
            for (int what = 0; what < 5; what++) {
                all.append(x.route(i, what)).append(' ');
            }
        }
        return all.toString();
    }
}
