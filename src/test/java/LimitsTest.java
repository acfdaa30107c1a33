/** Promise 16: order and limits. */
public final class LimitsTest {
    public static void main(String[] args) {
        printOfNothing();
        tags();
        cutNumbers();
        wrapped();
        refusedCallsChangeNothing();
        Check.end();
    }

    private static void printOfNothing() {
        TypedText x = new TypedText();
        x.simple(0, 2, 0, 0, 0);
        Check.prints(x, 0, "t", "t");
        x.put(20);
        Check.same("printed before", 28, x.printed(0));
        Check.same("print of nothing", 0, x.print());
        Check.same("printed behind", -1, x.printed(0));
        Check.same("bind", TypedText.OK, x.bind(0));
        Check.same("printed before the print", -1, x.printed(0));
        Check.same("print", 1, x.print());
        Check.same("printed", 28, x.printed(0));
    }

    private static void tags() {
        TypedText x = new TypedText();
        x.members(0, 0);
        x.members(1, -1);
        x.tag(0, 0, 1);
        x.tag(0, 1, 11);
        String[] wrong = {"n", "t", "f", "\"", "[", "{"};
        for (String begin : wrong) {
            Check.fault(x, 0, "{\"A\": " + begin, TypedText.TYPE, 6);
        }
        Check.fault(x, 0, "{\"A\": ,", TypedText.SYNTAX, 6);
        Check.fault(x, 0, "{\"A\":1}", TypedText.RANGE, 5);
        Check.fault(x, 0, "{\"A\":-0}", TypedText.OK, -1);
        // With 40 nodes there, a tag is none too much.
        x.simple(2, 2, 0, 0, 0);
        x.list(3, 2, 0, 20);
        x.list(4, 3, 0, 20);
        x.members(5, -1);
        x.field(5, 0, 4, false);
        x.field(5, 1, 0, false);
        // 1 + 1 + (1 + 20) + (1 + 15) + 1 are 40.
        String text = "{\"A\":[[t" + ",t".repeat(19) + "],[t" + ",t".repeat(14) + "]],\"B\":{";
        Check.fault(x, 5, text + "}}", TypedText.NAME, text.length());
        Check.fault(x, 5, text + "\"A\":0}}", TypedText.OK, -1);
        Check.same("nodes", 40, x.nodes());
    }

    private static TypedText oneToNine() {
        TypedText x = new TypedText();
        x.simple(0, 0, 0, 1, 9);
        x.list(1, 0, 0, 20);
        return x;
    }

    private static void cutNumbers() {
        String[] cut = {"77.", "77e", "77e+", "77e-", "0.", "-", "77.5e"};
        for (String number : cut) {
            TypedText x = oneToNine();
            Check.fault(x, 0, number, TypedText.SYNTAX, number.length());
            Check.fault(x, 0, number + "]", TypedText.SYNTAX, number.length());
            Check.fault(x, 0, number + " 1", TypedText.SYNTAX, number.length());
            Check.fault(x, 1, "[" + number + ",", TypedText.SYNTAX, number.length() + 1);
        }
        String[] whole = {"77", "0", "-1", "7.5", "7e1", "70e-2", "-0"};
        for (String number : whole) {
            TypedText x = oneToNine();
            Check.fault(x, 0, number, TypedText.RANGE, number.length() - 1);
            Check.fault(x, 0, number + "}", TypedText.RANGE, number.length() - 1);
            Check.fault(x, 0, number + " 1", TypedText.RANGE, number.length() - 1);
            Check.fault(x, 1, "[" + number, TypedText.RANGE, number.length());
            Check.fault(x, 1, "[" + number + "-", TypedText.RANGE, number.length());
        }
        TypedText x = oneToNine();
        Check.fault(x, 0, "01", TypedText.RANGE, 0);
        Check.fault(x, 0, "7.5.", TypedText.RANGE, 2);
        Check.fault(x, 0, "7e1e", TypedText.RANGE, 2);
    }

    private static void wrapped() {
        TypedText x = new TypedText();
        x.members(0, 0);
        x.members(1, -1);
        x.tag(0, 0, 1);
        x.wrap(2, 1, 0);
        String[] begins = {"0", "{", "n", "t"};
        for (String begin : begins) {
            Check.fault(x, 2, begin, TypedText.UNDEFINED, 0);
        }
        x.wrap(3, 0, 11);
        x.wrap(4, 0, 5);
        x.wrap(5, 0, 1);
        x.wrap(6, 0, 7);
        x.wrap(7, 1, 1);
        x.wrap(8, 0, 8);
        x.wrap(9, 1, 7);
        x.wrap(10, 1, 11);
        int[] slots = {3, 4, 6, 8, 9, 10};
        for (int slot : slots) {
            for (String begin : begins) {
                Check.fault(x, slot, " " + begin, TypedText.UNDEFINED, 1);
            }
            Check.fault(x, slot, " ]", TypedText.SYNTAX, 1);
            Check.fault(x, slot, "", TypedText.SYNTAX, 0);
        }
        Check.fault(x, 5, "n", TypedText.OK, -1);
        Check.fault(x, 7, "{}", TypedText.OK, -1);
        // POSSIBLE of a choice or of a list is fine.
        x.wrap(3, 0, 0);
        Check.fault(x, 3, "{\"A\":0}", TypedText.OK, -1);
        Check.fault(x, 3, "n", TypedText.OK, -1);
        x.list(4, 3, 0, 20);
        x.wrap(8, 0, 4);
        Check.fault(x, 8, "[n,{\"A\":0}]", TypedText.OK, -1);
    }

    private static void refusedCallsChangeNothing() {
        TypedText x = new TypedText();
        x.simple(0, 0, 2, -100, 100);
        x.members(1, -1);
        x.field(1, 0, 0, true);
        x.members(2, 1);
        x.tag(2, 0, 1);
        x.list(3, 2, 1, 2);
        Check.prints(x, 3, "[{\"B\":0,\"A\":0.5}]", "[{\"B\":0,\"A\":0.5}]");
        String nodes = Check.nodesOf(x);
        Check.same("simple", false, x.simple(0, 0, 5, -100, 100));
        Check.same("simple", false, x.simple(0, 0, 0, 100, -100));
        Check.same("simple", false, x.simple(1, 1, 41, 0, 0));
        Check.same("simple", false, x.simple(2, 3, 0, 0, 0));
        Check.same("list", false, x.list(3, 0, 2, 1));
        Check.same("list", false, x.list(3, 12, 0, 1));
        Check.same("members", false, x.members(1, 6));
        Check.same("members", false, x.members(2, -2));
        Check.same("field", false, x.field(1, 0, 3, false));
        Check.same("field", false, x.field(2, 0, 3, false));
        Check.same("tag", false, x.tag(2, 6, 0));
        Check.same("tag", false, x.tag(1, 0, 0));
        Check.same("wrap", false, x.wrap(3, 2, 0));
        Check.same("put", false, x.put(-1));
        Check.same("nodes", nodes, Check.nodesOf(x));
        Check.same("print", 17, x.print());
        Check.same("bind again", TypedText.OK, x.bind(3));
        Check.same("nodes again", nodes, Check.nodesOf(x));
    }
}
