import java.util.IdentityHashMap;
import java.util.Map;

/**
 * What the tests share. A text is written with the document's signs, the names' letters as A to F:
 * the place of a sign in SIGNS is the character's number.
 */
final class Check {
    static final String SIGNS = "0123456789{}[]:,\"-.e ABCDEFntf\\+";

    // The document promises nothing behind this; the rest of 512 is for the calls that are not counted here.
    private static final int CALLS_MOST = 450;

    private static final Map<TypedText, Integer> CALLS = new IdentityHashMap<>();
    private static int done = 0;
    private static int wrong = 0;

    private Check() {
    }

    static void same(String what, Object want, Object got) {
        done++;
        if (!want.equals(got)) {
            wrong++;
            System.out.println(what + " answered " + got + ", due is " + want);
        }
    }

    private static void count(TypedText x, int calls) {
        int all = CALLS.merge(x, calls, Integer::sum);
        if (all > CALLS_MOST && all - calls <= CALLS_MOST) {
            wrong++;
            System.out.println("a test makes too many calls on one object");
        }
    }

    static void write(TypedText x, String text) {
        count(x, text.length() + 1);
        x.wipe();
        for (char sign : text.toCharArray()) {
            same("put " + sign + " of " + text, true, x.put(SIGNS.indexOf(sign)));
        }
    }

    /** Writes the text, binds it and looks at the fault and its place. */
    static void fault(TypedText x, int slot, String text, int code, int place) {
        count(x, 5);
        write(x, text);
        same("bind(" + slot + ") of " + text, code, x.bind(slot));
        same("place of " + text, place, x.place());
        if (code != TypedText.OK) {
            same("nodes of " + text, 0, x.nodes());
            same("node of " + text, -1, x.node(0, 0));
            same("print of " + text, 0, x.print());
        }
    }

    /** Writes the text, binds it and looks at the nodes, each as kind/value/parent/name. */
    static void nodes(TypedText x, int slot, String text, String want) {
        fault(x, slot, text, TypedText.OK, -1);
        same("nodes of " + text, want, nodesOf(x));
    }

    /** Writes the text, binds it and looks at what is printed. */
    static void prints(TypedText x, int slot, String text, String want) {
        fault(x, slot, text, TypedText.OK, -1);
        same("print of " + text, want.length(), x.print());
        same("printed of " + text, want, printedOf(x));
    }

    static String nodesOf(TypedText x) {
        count(x, 5 * x.nodes() + 1);
        StringBuilder all = new StringBuilder();
        for (int k = 0; k < x.nodes(); k++) {
            all.append(k == 0 ? "" : " ");
            for (int what = 0; what < 4; what++) {
                all.append(what == 0 ? "" : "/").append(x.node(k, what));
            }
        }
        return all.toString();
    }

    static String printedOf(TypedText x) {
        StringBuilder all = new StringBuilder();
        for (int c = x.printed(0); c != -1; c = x.printed(all.length())) {
            all.append(SIGNS.charAt(c));
        }
        count(x, all.length() + 1);
        return all.toString();
    }

    static void end() {
        System.out.println(done + " answers looked at, " + wrong + " not as due");
        if (wrong != 0 || done == 0) {
            System.exit(1);
        }
    }
}
