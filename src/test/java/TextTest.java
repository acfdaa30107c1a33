/** Promises 1 to 3: a new object, put and wipe. */
public final class TextTest {
    public static void main(String[] args) {
        newObject();
        put();
        putUnbinds();
        wipe();
        Check.end();
    }

    private static void newObject() {
        TypedText x = new TypedText();
        Check.same("new place", -1, x.place());
        Check.same("new nodes", 0, x.nodes());
        Check.same("new node", -1, x.node(0, 0));
        Check.same("new print", 0, x.print());
        Check.same("new printed", -1, x.printed(0));
        Check.same("new wipe", 0, x.wipe());
        for (int slot = 0; slot < 12; slot++) {
            Check.same("new field", false, x.field(slot, 0, 0, true));
            Check.same("new tag", false, x.tag(slot, 0, 0));
            Check.fault(x, slot, "1", TypedText.UNDEFINED, 0);
            Check.fault(x, slot, "", TypedText.SYNTAX, 0);
        }
        // What one object holds is nothing to another.
        TypedText y = new TypedText();
        y.simple(0, 0, 0, 0, 9);
        y.put(1);
        Check.same("bind of the other", TypedText.OK, y.bind(0));
        Check.same("wipe of the one", 0, x.wipe());
        Check.same("bind of the one", TypedText.SYNTAX, x.bind(0));
    }

    private static void put() {
        TypedText x = new TypedText();
        int[] none = {-1, 32, 33, Integer.MIN_VALUE, Integer.MAX_VALUE};
        for (int c : none) {
            Check.same("put(" + c + ")", false, x.put(c));
        }
        Check.same("wipe behind refused puts", 0, x.wipe());
        for (int k = 0; k < 96; k++) {
            Check.same("put of character " + k, true, x.put(k % 32));
        }
        Check.same("put of a 97th", false, x.put(0));
        Check.same("put of a 97th that is none", false, x.put(32));
        Check.same("wipe of a full text", 96, x.wipe());
        Check.same("put behind wipe", true, x.put(31));
        Check.same("wipe of one", 1, x.wipe());
    }

    private static void putUnbinds() {
        TypedText x = new TypedText();
        x.simple(0, 0, 0, 0, 99);
        Check.nodes(x, 0, "7", "0/7/-1/-1");
        Check.same("put of none", false, x.put(32));
        Check.same("bound behind a refused put", 1, x.nodes());
        Check.same("print behind a refused put", 1, x.print());
        Check.same("put of a space", true, x.put(20));
        Check.same("bound behind put", 0, x.nodes());
        Check.same("node behind put", -1, x.node(0, 1));
        Check.same("place behind put", -1, x.place());
        Check.same("printed behind put", 7, x.printed(0));
        Check.same("print behind put", 0, x.print());
        Check.same("bind again", TypedText.OK, x.bind(0));
        // A full text that is bound stays bound when one more is refused.
        Check.write(x, "7" + " ".repeat(95));
        Check.same("bind of a full text", TypedText.OK, x.bind(0));
        Check.same("put of a 97th", false, x.put(20));
        Check.same("bound behind a 97th", "0/7/-1/-1", Check.nodesOf(x));
    }

    private static void wipe() {
        TypedText x = new TypedText();
        x.simple(0, 0, 0, 0, 99);
        Check.nodes(x, 0, "42", "0/42/-1/-1");
        Check.same("print", 2, x.print());
        Check.same("wipe", 2, x.wipe());
        Check.same("nodes behind wipe", 0, x.nodes());
        Check.same("node behind wipe", -1, x.node(0, 0));
        Check.same("printed behind wipe", 4, x.printed(0));
        Check.same("wipe again", 0, x.wipe());
        Check.same("types stay", TypedText.SYNTAX, x.bind(0));
        Check.same("place", 0, x.place());
        x.put(5);
        Check.same("place stays that of the latest bind", 0, x.place());
        Check.same("types stay", TypedText.OK, x.bind(0));
    }
}
