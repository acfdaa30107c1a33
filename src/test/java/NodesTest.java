/** Promises 12 and 13: nodes and node. */
public final class NodesTest {
    public static void main(String[] args) {
        kindsAndValues();
        parentsAndNames();
        records();
        none();
        Check.end();
    }

    private static void kindsAndValues() {
        TypedText x = new TypedText();
        x.simple(0, 0, 1, -99, 99);
        x.simple(1, 1, 40, 0, 0);
        x.simple(2, 2, 0, 0, 0);
        x.wrap(3, 0, 2);
        Check.nodes(x, 0, "-1.5", "0/-15/-1/-1");
        Check.nodes(x, 1, "\"\"", "1/0/-1/-1");
        Check.nodes(x, 1, "\"0\"", "1/0/-1/-1");
        Check.nodes(x, 1, "\"1+ \"", "1/" + ((1 * 32 + 31) * 32 + 20) + "/-1/-1");
        Check.nodes(x, 1, "\"\\\\\\\"\"", "1/" + (30 * 32 + 16) + "/-1/-1");
        Check.nodes(x, 1, "\"F000000\"", "1/" + (26 << 30) + "/-1/-1");
        Check.nodes(x, 1, "\"F++++++\"", "1/" + (int) ((26L << 30) + (1L << 30) - 1) + "/-1/-1");
        Check.nodes(x, 1, "\"FF" + "0".repeat(38) + "\"", "1/0/-1/-1");
        Check.nodes(x, 2, "t", "2/1/-1/-1");
        Check.nodes(x, 2, "f", "2/0/-1/-1");
        Check.nodes(x, 3, "n", "5/0/-1/-1");
        Check.nodes(x, 3, "t", "2/1/-1/-1");
    }

    private static void parentsAndNames() {
        TypedText x = new TypedText();
        x.simple(0, 0, 0, 0, 9);
        x.list(1, 0, 0, 20);
        x.list(2, 1, 0, 20);
        x.members(3, -1);
        x.field(3, 4, 2, false);
        x.field(3, 0, 1, false);
        Check.nodes(x, 1, "[]", "3/0/-1/-1");
        Check.nodes(x, 2, "[[],[7,8],[9]]",
                "3/3/-1/-1 3/0/0/0 3/2/0/1 0/7/2/0 0/8/2/1 3/1/0/2 0/9/5/0");
        Check.nodes(x, 3, "{\"A\":[5],\"E\":[[6]]}",
                "4/0/-1/-1 3/1/0/0 0/5/1/0 3/1/0/4 3/1/3/0 0/6/4/0");
    }

    private static void records() {
        TypedText x = new TypedText();
        x.members(0, -1);
        x.field(0, 0, 1, false);
        x.field(0, 1, 2, false);
        x.wrap(1, 1, 0);
        x.wrap(2, 0, 3);
        x.members(3, 5);
        x.tag(3, 2, 0);
        x.tag(3, 4, 4);
        x.members(4, -1);
        x.list(5, 1, 0, 20);
        // The outer record begins before the inner one is complete.
        Check.nodes(x, 5, "[{\"A\":{}},{\"A\":1},2,{}]",
                "3/4/-1/-1 4/0/0/0 4/0/1/0 4/2/0/1 6/1/3/0 6/2/0/2 4/3/0/3");
        // A choice has its record's slot, and gives no complete one.
        Check.nodes(x, 5, "[{\"B\":{\"F\":4}},{\"B\":{\"F\":2,\"A\":0}},{\"B\":n}]",
                "3/3/-1/-1 4/0/0/0 4/4/1/1 4/1/0/1 4/0/3/1 6/0/4/0 4/2/0/2 5/0/6/1");
    }

    private static void none() {
        TypedText x = new TypedText();
        x.simple(0, 0, 0, 0, 9);
        x.list(1, 0, 0, 20);
        Check.nodes(x, 1, "[5,6]", "3/2/-1/-1 0/5/0/0 0/6/0/1");
        Check.same("nodes", 3, x.nodes());
        int[] ks = {-1, 3, 40, 41, Integer.MIN_VALUE, Integer.MAX_VALUE};
        for (int k : ks) {
            for (int what = 0; what < 4; what++) {
                Check.same("node(" + k + ", " + what + ")", -1, x.node(k, what));
            }
        }
        int[] whats = {-1, 4, Integer.MIN_VALUE, Integer.MAX_VALUE};
        for (int what : whats) {
            Check.same("node(1, " + what + ")", -1, x.node(1, what));
        }
        Check.fault(x, 1, "[5,6", TypedText.SYNTAX, 4);
        Check.same("nodes of a fault", 0, x.nodes());
        Check.same("node of a fault", -1, x.node(1, 1));
    }
}
