import java.util.Map;
import java.util.WeakHashMap;
import java.util.function.Predicate;
import java.util.function.Supplier;

/**
 * What the tests share. A text is written with the document's signs, the names' letters as A to F:
 * the place of a sign in SIGNS is the character's number. For the sake of Java's own strings ' may
 * stand for ".
 */
final class Check {
    static final String SIGNS = "0123456789{}[]:,\"-.e ABCDEFntf\\+";

    // The document promises nothing behind this; the rest of 512 is for the calls that are not counted here.
    private static final int CALLS_MOST = 450;

    /** Texts of every kind, short enough to be bound to all slots of one object. */
    private static final String[] PROBES = {"1", "1.5", "'AB'", "t", "n", "[1]", "[1,1,1]", "[]", "{}", "{'A':1}",
        "{'A':1,'B':'A'}", "{'D':0,'A':1}", "{'D':1,'A':1}", "{'D':5}", "[{'A':1},0]"};

    private static final Map<TypedText, Integer> CALLS = new WeakHashMap<>();
    private static int done = 0;
    private static int wrong = 0;
    private static String sentence = "";

    private Check() {
    }

    /** The sentence of the document that the answers behind this are looked at for. */
    static void sentence(String words) {
        sentence = " (" + words + ")";
    }

    static void same(String what, Object want, Object got) {
        done++;
        if (!want.equals(got)) {
            wrong++;
            System.out.println(what + " answered " + got + ", due is " + want + sentence);
        }
    }

    private static void count(TypedText x, int calls) {
        int all = CALLS.merge(x, calls, Integer::sum);
        if (all > CALLS_MOST && all - calls <= CALLS_MOST) {
            wrong++;
            System.out.println("a test makes too many calls on one object");
        }
    }

    static void write(TypedText x, String text) {
        count(x, text.length() + 1);
        x.wipe();
        for (char sign : quoted(text).toCharArray()) {
            same("put " + sign + " of " + text, true, x.put(SIGNS.indexOf(sign)));
        }
    }

    static String quoted(String text) {
        return text.replace('\'', '"');
    }

    /** Writes the text, binds it and looks at the fault and its place. */
    static void fault(TypedText x, int slot, String text, int code, int place) {
        count(x, 5);
        write(x, text);
        same("bind(" + slot + ") of " + text, code, x.bind(slot));
        same("place of " + text, place, x.place());
        if (code != TypedText.OK) {
            same("nodes of " + text, 0, x.nodes());
            same("node of " + text, -1, x.node(0, 0));
            same("print of " + text, 0, x.print());
        }
    }

    /** Writes the text, binds it and looks at the nodes, each as kind/value/parent/name. */
    static void nodes(TypedText x, int slot, String text, String want) {
        fault(x, slot, text, TypedText.OK, -1);
        same("nodes of " + text, want, nodesOf(x));
    }

    /** Writes the text, binds it and looks at what is printed. */
    static void prints(TypedText x, int slot, String text, String want) {
        fault(x, slot, text, TypedText.OK, -1);
        same("print of " + text, want.length(), x.print());
        same("printed of " + text, quoted(want), printedOf(x));
    }

    static String nodesOf(TypedText x) {
        count(x, 5 * x.nodes() + 1);
        StringBuilder all = new StringBuilder();
        for (int k = 0; k < x.nodes(); k++) {
            all.append(k == 0 ? "" : " ");
            for (int what = 0; what < 4; what++) {
                all.append(what == 0 ? "" : "/").append(x.node(k, what));
            }
        }
        return all.toString();
    }

    static String printedOf(TypedText x) {
        StringBuilder all = new StringBuilder();
        for (int c = x.printed(0); c != -1; c = x.printed(all.length())) {
            all.append(SIGNS.charAt(c));
        }
        count(x, all.length() + 1);
        return all.toString();
    }

    /**
     * The call answers false, and whatever is called after it answers as it does on an object made alike
     * on which it was not made.
     */
    static void refused(String what, Supplier<TypedText> made, Predicate<TypedText> call) {
        TypedText x = made.get();
        same(what, false, call.test(x));
        same("what stands after " + what, standing(made.get()), standing(x));
        for (String probe : PROBES) {
            x = made.get();
            call.test(x);
            same("binds of " + probe + " after " + what, probed(made.get(), probe), probed(x, probe));
        }
    }

    /** The call answers true; what was bound is no more, and the latest bind and print are as they were. */
    static void taken(String what, Supplier<TypedText> made, Predicate<TypedText> call) {
        TypedText x = made.get();
        int place = x.place();
        int printed = x.printed(0);
        same(what, true, call.test(x));
        same("nodes after " + what, 0, x.nodes());
        same("node after " + what, -1, x.node(0, 0));
        same("place after " + what, place, x.place());
        same("printed after " + what, printed, x.printed(0));
        same("print after " + what, 0, x.print());
        same("printed of nothing after " + what, -1, x.printed(0));
    }

    private static String standing(TypedText x) {
        StringBuilder all = new StringBuilder();
        all.append("place ").append(x.place()).append(", printed ").append(printedOf(x));
        all.append(", nodes ").append(nodesOf(x)).append(", print ").append(x.print()).append(' ').append(printedOf(x));
        for (int slot = -1; slot <= 12; slot++) {
            all.append(", bind ").append(x.bind(slot)).append(" at ").append(x.place());
        }
        return all.append(", length ").append(x.wipe()).toString();
    }

    private static String probed(TypedText x, String probe) {
        StringBuilder all = new StringBuilder();
        write(x, probe);
        for (int slot = 0; slot < 12; slot++) {
            all.append(x.bind(slot)).append(" at ").append(x.place()).append(", ").append(nodesOf(x)).append("; ");
        }
        return all.toString();
    }

    static void end() {
        System.out.println(done + " answers looked at, " + wrong + " not as due");
        if (wrong != 0 || done == 0) {
            System.exit(1);
        }
    }
}
