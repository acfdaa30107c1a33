/** Promises 14 and 15: print and printed. */
public final class PrintTest {
    public static void main(String[] args) {
        numbers();
        textsAndFlags();
        listsAndRecords();
        choicesAndReferences();
        longOnes();
        printedLast();
        Check.end();
    }

    private static TypedText decimals() {
        TypedText x = new TypedText();
        for (int slot = 0; slot <= 4; slot++) {
            x.simple(slot, 0, slot, Integer.MIN_VALUE, Integer.MAX_VALUE);
        }
        return x;
    }

    private static void numbers() {
        for (int decimals = 0; decimals <= 4; decimals++) {
            TypedText x = decimals();
            Check.prints(x, decimals, " -0.000 ", "0");
            Check.prints(x, decimals, "1.0", "1");
            Check.prints(x, decimals, "-10e2", "-1000");
            Check.prints(x, decimals, "100000", "100000");
        }
        TypedText x = decimals();
        Check.prints(x, 0, "-2147483648", "-2147483648");
        Check.prints(x, 0, "2147483647", "2147483647");
        Check.prints(x, 0, "2e9", "2000000000");
        Check.prints(x, 1, "-214748364.8", "-214748364.8");
        Check.prints(x, 2, "0.5", "0.5");
        Check.prints(x, 2, "-0.05", "-0.05");
        Check.prints(x, 2, "10.50", "10.5");
        Check.prints(x, 2, "10.05e0", "10.05");
        Check.prints(x, 4, "1e-4", "0.0001");
        Check.prints(x, 4, "-0.0100", "-0.01");
        Check.prints(x, 4, "12.0340", "12.034");
        Check.prints(x, 4, "-214748.3648", "-214748.3648");
    }

    private static void textsAndFlags() {
        TypedText x = new TypedText();
        x.simple(0, 1, 40, 0, 0);
        x.simple(1, 2, 0, 0, 0);
        x.wrap(2, 0, 1);
        Check.prints(x, 0, "\"\"", "\"\"");
        Check.prints(x, 0, " \" A 1 \" ", "\" A 1 \"");
        Check.prints(x, 0, "\"\\\"\\\\\"", "\"\\\"\\\\\"");
        Check.prints(x, 0, "\"\\\\\"  ", "\"\\\\\"");
        Check.prints(x, 0, "\"{}[]:,-.entf+\"", "\"{}[]:,-.entf+\"");
        Check.prints(x, 1, " t", "t");
        Check.prints(x, 1, "f ", "f");
        Check.prints(x, 2, " n ", "n");
    }

    private static void listsAndRecords() {
        TypedText x = new TypedText();
        x.simple(0, 0, 1, -99, 99);
        x.list(1, 0, 0, 20);
        x.members(2, -1);
        x.field(2, 5, 1, false);
        x.field(2, 0, 3, false);
        x.field(2, 3, 0, false);
        x.wrap(3, 0, 2);
        x.list(4, 2, 0, 20);
        Check.prints(x, 1, " [ ] ", "[]");
        Check.prints(x, 1, " [ 1.0 , 2e-1 ] ", "[1,0.2]");
        Check.prints(x, 2, " { } ", "{}");
        Check.prints(x, 2, "{\"D\":1}", "{\"D\":1}");
        Check.prints(x, 2, "{ \"D\" : 1 , \"A\" : n , \"F\" : [ ] }", "{\"F\":[],\"A\":n,\"D\":1}");
        Check.prints(x, 2, "{\"D\":1,\"A\":{\"D\":2,\"F\":[3,4]}}", "{\"A\":{\"F\":[3,4],\"D\":2},\"D\":1}");
        Check.prints(x, 2, "{\"A\":{\"A\":{\"A\":{\"A\":{\"A\":{}}}}}}", "{\"A\":{\"A\":{\"A\":{\"A\":{\"A\":{}}}}}}");
        Check.prints(x, 4, "[{},{\"D\":1},{\"A\":n}]", "[{},{\"D\":1},{\"A\":n}]");
    }

    private static void choicesAndReferences() {
        TypedText x = new TypedText();
        x.members(0, 2);
        x.tag(0, 3, 1);
        x.tag(0, 5, 2);
        x.members(1, -1);
        x.field(1, 2, 3, true);
        x.field(1, 4, 3, false);
        x.field(1, 0, 4, false);
        x.members(2, -1);
        x.simple(3, 2, 0, 0, 0);
        x.wrap(4, 1, 2);
        x.list(5, 4, 0, 20);
        x.list(6, 0, 0, 20);
        Check.prints(x, 0, "{\"C\":5.0}", "{\"C\":5}");
        Check.prints(x, 0, "{ \"C\" : 30e-1 , \"A\":{}, \"E\":t}", "{\"C\":3,\"E\":t,\"A\":{}}");
        Check.prints(x, 5, "[{},{},10e-1,-0]", "[{},{},1,0]");
        Check.prints(x, 6, "[{\"C\":5},{\"C\":3,\"E\":f}]", "[{\"C\":5},{\"C\":3,\"E\":f}]");
        Check.prints(x, 6, "[{\"C\":3,\"E\":f},{\"C\":5}]", "[{\"C\":3,\"E\":f},{\"C\":5}]");
    }

    private static TypedText longNumbers() {
        TypedText x = new TypedText();
        x.simple(0, 0, 0, 0, Integer.MAX_VALUE);
        x.list(1, 0, 0, 20);
        return x;
    }

    /** A print may be longer than its text: 192 characters are kept, all are counted. */
    private static void longOnes() {
        TypedText x = longNumbers();
        Check.fault(x, 1, "[2e9" + ",1e9".repeat(19) + "]", TypedText.OK, -1);
        Check.same("length of a long one", 221, x.print());
        Check.same("character 190", 0, x.printed(190));
        Check.same("character 191", 0, x.printed(191));
        Check.same("character 192", -1, x.printed(192));
        Check.same("character 220", -1, x.printed(220));
        String kept = ("[2000000000" + ",1000000000".repeat(19) + "]").substring(0, 192);
        Check.same("kept", kept, Check.printedOf(x));
        x = longNumbers();
        String just = "[2000000000" + ",1000000000".repeat(16) + ",1,3]";
        Check.same("length of one that is just kept", 192, just.length());
        Check.prints(x, 1, "[2e9" + ",1e9".repeat(16) + ",1,3]", just);
    }

    private static void printedLast() {
        TypedText x = new TypedText();
        x.simple(0, 0, 0, 0, 999);
        Check.same("before a print", -1, x.printed(0));
        Check.fault(x, 0, "123", TypedText.OK, -1);
        Check.same("before a print", -1, x.printed(0));
        Check.same("print", 3, x.print());
        Check.same("print again", 3, x.print());
        Check.same("printed", "123", Check.printedOf(x));
        Check.same("printed(-1)", -1, x.printed(-1));
        Check.same("printed(3)", -1, x.printed(3));
        Check.same("printed(least)", -1, x.printed(Integer.MIN_VALUE));
        Check.same("printed(most)", -1, x.printed(Integer.MAX_VALUE));
        // What was printed last stays until the next print.
        x.put(20);
        x.simple(1, 2, 0, 0, 0);
        x.wipe();
        x.put(4);
        Check.same("bind", TypedText.OK, x.bind(0));
        Check.same("printed behind another bind", "123", Check.printedOf(x));
        Check.same("bind with a fault", TypedText.TYPE, x.bind(1));
        Check.same("printed behind a fault", "123", Check.printedOf(x));
        Check.same("bind", TypedText.OK, x.bind(0));
        Check.same("print of a shorter one", 1, x.print());
        Check.same("printed of a shorter one", "4", Check.printedOf(x));
        x.wipe();
        Check.same("print of nothing", 0, x.print());
        Check.same("printed of nothing", -1, x.printed(0));
    }
}
