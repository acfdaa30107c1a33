/** Promises 10 and 11: bind and place, each fault with its place, and which of several counts. */
public final class FaultsTest {
    public static void main(String[] args) {
        noSlot();
        syntax();
        undefinedAndType();
        deep();
        many();
        numbers();
        rangesOfTextsAndLists();
        references();
        names();
        choices();
        missing();
        severalFaults();
        latestBind();
        Check.end();
    }

    /** 0 number 0..99, 1 two decimals, 2 text of 3, 3 flag, 4 list of numbers, 5 record, 6 choice by D, 7 possible, 8 shared. */
    private static TypedText types() {
        TypedText x = new TypedText();
        x.simple(0, 0, 0, 0, 99);
        x.simple(1, 0, 2, -150, 150);
        x.simple(2, 1, 3, 0, 0);
        x.simple(3, 2, 0, 0, 0);
        x.list(4, 0, 1, 2);
        x.members(5, -1);
        x.field(5, 0, 0, true);
        x.field(5, 3, 2, false);
        x.members(6, 3);
        x.tag(6, 1, 5);
        x.tag(6, 2, 0);
        x.wrap(7, 0, 5);
        x.wrap(8, 1, 5);
        x.list(9, 8, 0, 20);
        x.list(10, 10, 0, 20);
        return x;
    }

    private static void noSlot() {
        TypedText x = types();
        int[] none = {-1, 12, Integer.MIN_VALUE, Integer.MAX_VALUE};
        for (int slot : none) {
            Check.fault(x, slot, "  1", TypedText.UNDEFINED, 0);
            Check.fault(x, slot, "", TypedText.UNDEFINED, 0);
            Check.fault(x, slot, "}", TypedText.UNDEFINED, 0);
        }
    }

    private static void syntax() {
        TypedText x = types();
        Check.fault(x, 0, "", TypedText.SYNTAX, 0);
        Check.fault(x, 0, "   ", TypedText.SYNTAX, 3);
        Check.fault(x, 0, " }", TypedText.SYNTAX, 1);
        Check.fault(x, 0, "+1", TypedText.SYNTAX, 0);
        Check.fault(x, 0, ".5", TypedText.SYNTAX, 0);
        Check.fault(x, 0, "e5", TypedText.SYNTAX, 0);
        Check.fault(x, 0, "A", TypedText.SYNTAX, 0);
        Check.fault(x, 0, "01", TypedText.SYNTAX, 1);
        Check.fault(x, 0, "-", TypedText.SYNTAX, 1);
        Check.fault(x, 0, "- 1", TypedText.SYNTAX, 1);
        Check.fault(x, 0, "--1", TypedText.SYNTAX, 1);
        Check.fault(x, 0, "1.", TypedText.SYNTAX, 2);
        Check.fault(x, 0, "1.e1", TypedText.SYNTAX, 2);
        Check.fault(x, 0, "1e", TypedText.SYNTAX, 2);
        Check.fault(x, 0, "1e+", TypedText.SYNTAX, 3);
        Check.fault(x, 0, "1e-+1", TypedText.SYNTAX, 3);
        Check.fault(x, 0, "1e1.0", TypedText.SYNTAX, 3);
        Check.fault(x, 0, "1 1", TypedText.SYNTAX, 2);
        Check.fault(x, 0, "1 ,", TypedText.SYNTAX, 2);
        Check.fault(x, 2, "\"AB", TypedText.SYNTAX, 3);
        Check.fault(x, 2, "\"\\", TypedText.SYNTAX, 2);
        Check.fault(x, 2, "\"\\A\"", TypedText.SYNTAX, 2);
        Check.fault(x, 2, "\"\"\"", TypedText.SYNTAX, 2);
        Check.fault(x, 3, "tt", TypedText.SYNTAX, 1);
        x = types();
        Check.fault(x, 4, "[", TypedText.SYNTAX, 1);
        Check.fault(x, 4, "[,", TypedText.SYNTAX, 1);
        Check.fault(x, 4, "[1,]", TypedText.SYNTAX, 3);
        Check.fault(x, 4, "[1 1]", TypedText.SYNTAX, 3);
        Check.fault(x, 4, "[1}", TypedText.SYNTAX, 2);
        Check.fault(x, 4, "[1:", TypedText.SYNTAX, 2);
        Check.fault(x, 4, "[1]]", TypedText.SYNTAX, 3);
        Check.fault(x, 5, "{", TypedText.SYNTAX, 1);
        Check.fault(x, 5, "{A", TypedText.SYNTAX, 1);
        Check.fault(x, 5, "{,", TypedText.SYNTAX, 1);
        Check.fault(x, 5, "{\"A", TypedText.SYNTAX, 3);
        Check.fault(x, 5, "{\"\\A\":1}", TypedText.SYNTAX, 3);
        Check.fault(x, 5, "{\"A\"", TypedText.SYNTAX, 4);
        Check.fault(x, 5, "{\"A\",", TypedText.SYNTAX, 4);
        Check.fault(x, 5, "{\"A\":", TypedText.SYNTAX, 5);
        Check.fault(x, 5, "{\"A\":}", TypedText.SYNTAX, 5);
        Check.fault(x, 5, "{\"A\":1", TypedText.SYNTAX, 6);
        Check.fault(x, 5, "{\"A\":1]", TypedText.SYNTAX, 6);
        Check.fault(x, 5, "{\"A\":1,}", TypedText.SYNTAX, 7);
        Check.fault(x, 5, "{\"A\":1}}", TypedText.SYNTAX, 7);
        Check.fault(x, 2, "\"" + " ".repeat(3), TypedText.SYNTAX, 4);
        // Spaces before and behind each part.
        Check.fault(x, 4, "  [ 1 , 2 ]  ", TypedText.OK, -1);
        Check.fault(x, 5, " { \"D\" : \" \" , \"A\" : 0 } ", TypedText.OK, -1);
        Check.fault(x, 5, " { \"D\" : \" \" , \"A\" : 0 } 0", TypedText.SYNTAX, 25);
    }

    private static void undefinedAndType() {
        TypedText x = types();
        String[] begins = {"n", "t", "1", "-1", "\"\"", "[]", "{}"};
        for (String begin : begins) {
            Check.fault(x, 11, " " + begin, TypedText.UNDEFINED, 1);
        }
        String[] texts = {"n", "\"", "t", "f", "[", "{"};
        for (String text : texts) {
            Check.fault(x, 0, " " + text, TypedText.TYPE, 1);
        }
        Check.fault(x, 2, "1", TypedText.TYPE, 0);
        Check.fault(x, 2, "-", TypedText.TYPE, 0);
        Check.fault(x, 3, "n", TypedText.TYPE, 0);
        Check.fault(x, 3, "\"t\"", TypedText.TYPE, 0);
        Check.fault(x, 4, "{}", TypedText.TYPE, 0);
        Check.fault(x, 5, "[]", TypedText.TYPE, 0);
        Check.fault(x, 5, "0", TypedText.TYPE, 0);
        Check.fault(x, 6, "n", TypedText.TYPE, 0);
        Check.fault(x, 7, "0", TypedText.TYPE, 0);
        Check.fault(x, 7, "t", TypedText.TYPE, 0);
        Check.fault(x, 8, "n", TypedText.TYPE, 0);
        Check.fault(x, 8, "[]", TypedText.TYPE, 0);
        Check.fault(x, 8, "-", TypedText.SYNTAX, 1);
        Check.fault(x, 4, "[1, t]", TypedText.TYPE, 4);
        Check.fault(x, 5, "{\"A\": t}", TypedText.TYPE, 6);
        Check.fault(x, 6, "{\"D\": t}", TypedText.TYPE, 6);
        Check.fault(x, 6, "{\"D\":[[[[[[[", TypedText.TYPE, 5);
        Check.fault(x, 6, "{\"D\":}", TypedText.SYNTAX, 5);
    }

    private static void deep() {
        TypedText x = types();
        Check.fault(x, 10, "[[[[[[]]]]]]", TypedText.OK, -1);
        Check.fault(x, 10, "[[[[[[[]]]]]]]", TypedText.DEEP, 6);
        Check.fault(x, 10, "[[[[[[],[ []]]]]]]", TypedText.DEEP, 10);
        Check.fault(x, 10, "[[[[[[t", TypedText.TYPE, 6);
        Check.fault(x, 10, "[[[[[[{", TypedText.TYPE, 6);
        x.members(0, -1);
        x.field(0, 1, 1, false);
        x.wrap(1, 0, 0);
        x.field(0, 0, 2, false);
        String five = "{\"B\":".repeat(5);
        Check.fault(x, 0, five + "{}}}}}}", TypedText.OK, -1);
        Check.fault(x, 0, five + "{\"A\":\"\"}}}}}}", TypedText.OK, -1);
        Check.fault(x, 0, five + "{\"B\":n}}}}}}", TypedText.OK, -1);
        Check.fault(x, 0, five + "{\"B\":{", TypedText.DEEP, 30);
        // A choice is a value among the others, too; its tag is in no way deep.
        x.members(3, 5);
        x.tag(3, 0, 4);
        x.members(4, -1);
        x.field(4, 0, 3, false);
        String choices = "{\"F\":0,\"A\":".repeat(5);
        Check.fault(x, 3, choices + "{\"F\":0}}}}}}", TypedText.OK, -1);
        Check.fault(x, 3, choices + "{\"F\":0,\"A\":{", TypedText.DEEP, 66);
    }

    private static TypedText lists(int most) {
        TypedText x = new TypedText();
        x.list(0, 1, 0, 20);
        x.list(1, 2, 0, most);
        x.simple(2, 2, 0, 0, 0);
        return x;
    }

    private static void many() {
        TypedText x = lists(20);
        // 1 + (1 + 20) + (1 + 17) are 40.
        String full = "[[t" + ",t".repeat(19) + "],[t" + ",t".repeat(16);
        Check.fault(x, 0, full + "]]", TypedText.OK, -1);
        Check.same("nodes of a full one", 40, x.nodes());
        Check.same("the last one's name", 16, x.node(39, 3));
        Check.same("behind the last one", -1, x.node(40, 0));
        Check.fault(x, 0, full + ", t]]", TypedText.MANY, full.length() + 2);
        x = lists(20);
        Check.fault(x, 0, full + ",1]]", TypedText.TYPE, full.length() + 1);
        Check.fault(x, 0, full + ",]]", TypedText.SYNTAX, full.length() + 1);
        Check.fault(x, 0, full + "],[]]", TypedText.MANY, full.length() + 2);
        x = lists(17);
        String wide = "[[t" + ",t".repeat(16) + "],[t" + ",t".repeat(16) + "],[],[],[]";
        Check.fault(x, 0, wide + "]", TypedText.OK, -1);
        Check.same("nodes of a wide one", 40, x.nodes());
        Check.fault(x, 0, wide + ",[", TypedText.MANY, wide.length() + 1);
        // MANY comes before RANGE at one place.
        x.list(0, 1, 0, 5);
        Check.fault(x, 0, wide + ",[", TypedText.MANY, wide.length() + 1);
        x.list(0, 1, 0, 4);
        Check.fault(x, 0, wide + ",[", TypedText.RANGE, wide.length() - 2);
        // Tags are no nodes: 1 + 12 choices fit with their tags, and none of those counts.
        x = new TypedText();
        x.members(3, 0);
        x.tag(3, 1, 4);
        x.members(4, -1);
        x.list(5, 3, 0, 20);
        Check.fault(x, 5, "[{\"A\":1}" + ",{\"A\":1}".repeat(10) + "]", TypedText.OK, -1);
        Check.same("nodes of choices", 12, x.nodes());
    }

    private static void numbers() {
        TypedText x = types();
        Check.nodes(x, 1, "1.5", "0/150/-1/-1");
        Check.nodes(x, 1, "-1.50000", "0/-150/-1/-1");
        Check.nodes(x, 1, "0.01", "0/1/-1/-1");
        Check.nodes(x, 1, "15e-1", "0/150/-1/-1");
        Check.nodes(x, 1, "0.0015e+3", "0/150/-1/-1");
        Check.nodes(x, 1, "150e-0002", "0/150/-1/-1");
        Check.nodes(x, 1, "-0", "0/0/-1/-1");
        Check.nodes(x, 1, "-0.000e99", "0/0/-1/-1");
        Check.nodes(x, 1, "0e99999999999999999999", "0/0/-1/-1");
        Check.nodes(x, 1, "0e-99999999999999999999", "0/0/-1/-1");
        Check.nodes(x, 1, "1" + "0".repeat(60) + "e-60", "0/100/-1/-1");
        Check.nodes(x, 1, "0." + "0".repeat(60) + "1e61", "0/100/-1/-1");
        x = types();
        Check.fault(x, 1, "1.51", TypedText.RANGE, 3);
        Check.fault(x, 1, "-1.51", TypedText.RANGE, 4);
        Check.fault(x, 1, "0.001", TypedText.RANGE, 4);
        Check.fault(x, 1, "0.010" + "0".repeat(50) + "1", TypedText.RANGE, 55);
        Check.fault(x, 1, "1e-3 ", TypedText.RANGE, 3);
        Check.fault(x, 1, "1e2", TypedText.RANGE, 2);
        Check.fault(x, 1, "1e4294967296", TypedText.RANGE, 11);
        Check.fault(x, 1, "1e-4294967296", TypedText.RANGE, 12);
        Check.fault(x, 1, "1e18446744073709551616", TypedText.RANGE, 21);
        Check.fault(x, 1, "4294967296", TypedText.RANGE, 9);
        Check.fault(x, 1, "18446744073709551616", TypedText.RANGE, 19);
        Check.fault(x, 1, "184467440737095516.16", TypedText.RANGE, 20);
        x = types();
        Check.fault(x, 0, " ".repeat(94) + "99", TypedText.OK, -1);
        Check.fault(x, 0, " ".repeat(93) + "100", TypedText.RANGE, 95);
        Check.fault(x, 0, " ".repeat(94) + "1e", TypedText.SYNTAX, 96);
        x = types();
        Check.fault(x, 0, "100", TypedText.RANGE, 2);
        Check.fault(x, 0, "99.0e0", TypedText.OK, -1);
        // What stood in the text before it was wiped is gone.
        Check.fault(x, 0, "1e1", TypedText.OK, -1);
        Check.nodes(x, 0, "1", "0/1/-1/-1");
        Check.fault(x, 0, "-1", TypedText.RANGE, 1);
        Check.fault(x, 4, "[100 ,1]", TypedText.RANGE, 3);
        x = types();
        x.simple(0, 0, 0, Integer.MIN_VALUE, Integer.MAX_VALUE);
        Check.nodes(x, 0, "-2147483648", "0/-2147483648/-1/-1");
        Check.nodes(x, 0, "2147483647", "0/2147483647/-1/-1");
        Check.nodes(x, 0, "2e9", "0/2000000000/-1/-1");
        Check.fault(x, 0, "-2147483649", TypedText.RANGE, 10);
        Check.fault(x, 0, "2147483648", TypedText.RANGE, 9);
        Check.fault(x, 0, "9999999999", TypedText.RANGE, 9);
        Check.fault(x, 0, "1e10", TypedText.RANGE, 3);
        Check.fault(x, 0, "1099511627776", TypedText.RANGE, 12);
        Check.fault(x, 0, "-1099511627776", TypedText.RANGE, 13);
    }

    private static void rangesOfTextsAndLists() {
        TypedText x = types();
        Check.fault(x, 2, "\"ABC\"", TypedText.OK, -1);
        Check.fault(x, 2, "\"ABCD\"", TypedText.RANGE, 4);
        Check.fault(x, 2, "\"ABCD", TypedText.RANGE, 4);
        Check.fault(x, 2, "\"\\\\\\\"\\\\\"", TypedText.OK, -1);
        Check.fault(x, 2, "\"\\\\\\\"\\\\\\\"\"", TypedText.RANGE, 8);
        Check.fault(x, 2, "\"ABC\\A", TypedText.SYNTAX, 5);
        Check.fault(x, 2, "\"ABC\\", TypedText.SYNTAX, 5);
        Check.fault(x, 4, "[]", TypedText.RANGE, 1);
        Check.fault(x, 4, "[ ]", TypedText.RANGE, 2);
        Check.fault(x, 4, "[1,2,3]", TypedText.RANGE, 5);
        Check.fault(x, 4, "[1,2, 345]", TypedText.RANGE, 6);
        Check.fault(x, 4, "[1,2,t]", TypedText.TYPE, 5);
        Check.fault(x, 4, "[1,2,]", TypedText.SYNTAX, 5);
        Check.fault(x, 4, "[1,2,-", TypedText.RANGE, 5);
    }

    private static void references() {
        TypedText x = types();
        Check.fault(x, 8, "0", TypedText.RANGE, 0);
        Check.fault(x, 8, "{\"A\":1}", TypedText.OK, -1);
        Check.fault(x, 9, "[{\"A\":1},0,0.0,-0,0e5,{\"A\":2},1,10e-1]", TypedText.OK, -1);
        Check.fault(x, 9, "[{\"A\":1}, 1]", TypedText.RANGE, 10);
        Check.fault(x, 9, "[{\"A\":1},-1]", TypedText.RANGE, 10);
        Check.fault(x, 9, "[{\"A\":1},0.5]", TypedText.RANGE, 11);
        Check.fault(x, 9, "[{\"A\":1},0.", TypedText.SYNTAX, 11);
        // A record is no earlier one while it is open, a choice is none, and each slot counts for itself.
        x.members(0, -1);
        x.field(0, 0, 1, false);
        x.wrap(1, 1, 0);
        Check.fault(x, 0, "{\"A\":0}", TypedText.RANGE, 5);
        Check.fault(x, 0, "{\"A\":{\"A\":{}}}", TypedText.OK, -1);
        x.members(2, 5);
        x.tag(2, 0, 0);
        x.members(3, -1);
        x.field(3, 0, 2, false);
        x.field(3, 1, 1, false);
        x.field(3, 2, 4, false);
        x.members(4, -1);
        Check.fault(x, 3, "{\"A\":{\"F\":0},\"B\":0}", TypedText.RANGE, 17);
        Check.fault(x, 3, "{\"C\":{},\"B\":0}", TypedText.RANGE, 12);
        Check.fault(x, 3, "{\"A\":{\"F\":0,\"A\":{}},\"B\":0}", TypedText.OK, -1);
        // Each bind counts anew.
        Check.same("bind again", TypedText.OK, x.bind(3));
        Check.same("the record counts anew", 0, x.node(2, 1));
    }

    private static void names() {
        TypedText x = types();
        Check.fault(x, 5, "{\"B\":1}", TypedText.NAME, 3);
        Check.fault(x, 5, "{\"\":1}", TypedText.NAME, 2);
        Check.fault(x, 5, "{\"AA\":1}", TypedText.NAME, 4);
        Check.fault(x, 5, "{\"A \":1}", TypedText.NAME, 4);
        Check.fault(x, 5, "{\"0\":1}", TypedText.NAME, 3);
        Check.fault(x, 5, "{\"n\":1}", TypedText.NAME, 3);
        Check.fault(x, 5, "{\" \":1}", TypedText.NAME, 3);
        Check.fault(x, 5, "{\"\\\"\":1}", TypedText.NAME, 4);
        Check.fault(x, 5, "{\"\\\\\":1}", TypedText.NAME, 4);
        Check.fault(x, 5, "{\"A\":1, \"A\":1}", TypedText.NAME, 10);
        Check.fault(x, 5, "{\"A\":1,\"D\":\"\",\"D\":\"\"}", TypedText.NAME, 16);
        Check.fault(x, 5, "{\"B\"", TypedText.NAME, 3);
        Check.fault(x, 5, "{\"B", TypedText.SYNTAX, 3);
        // The same name in another record is no other one.
        x.field(5, 1, 7, false);
        Check.fault(x, 5, "{\"A\":1,\"B\":{\"A\":2}}", TypedText.OK, -1);
        Check.fault(x, 5, "{\"A\":1,\"B\":{\"A\":2},\"A\":3}", TypedText.NAME, 21);
        Check.fault(x, 5, "{\"A\":1,\"B\":{\"B\":n}}", TypedText.MISSING, 17);
    }

    private static void choices() {
        TypedText x = types();
        Check.fault(x, 6, "{\"D\":1,\"A\":2}", TypedText.OK, -1);
        Check.fault(x, 6, "{\"D\":10e-1,\"A\":2}", TypedText.OK, -1);
        Check.fault(x, 6, "{\"D\":1}", TypedText.MISSING, 6);
        Check.fault(x, 6, "{}", TypedText.NAME, 1);
        Check.fault(x, 6, "{ }", TypedText.NAME, 2);
        Check.fault(x, 6, "{\"A\":2,\"D\":1}", TypedText.NAME, 3);
        Check.fault(x, 6, "{\"DD\":1}", TypedText.NAME, 4);
        Check.fault(x, 6, "{\"D\":2}", TypedText.RANGE, 5);
        Check.fault(x, 6, "{\"D\":0}", TypedText.RANGE, 5);
        Check.fault(x, 6, "{\"D\":6}", TypedText.RANGE, 5);
        Check.fault(x, 6, "{\"D\":-1}", TypedText.RANGE, 6);
        Check.fault(x, 6, "{\"D\":1.5}", TypedText.RANGE, 7);
        Check.fault(x, 6, "{\"D\":4294967297}", TypedText.RANGE, 14);
        Check.fault(x, 6, "{\"D\":7.", TypedText.SYNTAX, 7);
        Check.fault(x, 6, "{\"D\":1,\"B\":2}", TypedText.NAME, 9);
        Check.fault(x, 6, "{\"D\":1,\"A\":2,\"A\":2}", TypedText.NAME, 15);
        // The record has a D, too: it counts as there already.
        Check.fault(x, 6, "{\"D\":1,\"A\":2,\"D\":\"\"}", TypedText.NAME, 15);
        x.members(5, -1);
        x.field(5, 3, 2, true);
        Check.fault(x, 6, "{\"D\":1}", TypedText.OK, -1);
        Check.fault(x, 5, "{}", TypedText.MISSING, 1);
    }

    private static void missing() {
        TypedText x = types();
        Check.fault(x, 5, "{}", TypedText.MISSING, 1);
        Check.fault(x, 5, "{ \"D\" : \"\" }", TypedText.MISSING, 11);
        Check.fault(x, 7, "{}", TypedText.MISSING, 1);
        Check.fault(x, 8, "{}", TypedText.MISSING, 1);
        Check.fault(x, 9, "[{\"A\":1},{}]", TypedText.MISSING, 10);
        x.field(5, 1, 0, true);
        Check.fault(x, 5, "{\"A\":1}", TypedText.MISSING, 6);
        Check.fault(x, 5, "{\"B\":1}", TypedText.MISSING, 6);
        Check.fault(x, 5, "{\"B\":1,\"A\":1}", TypedText.OK, -1);
    }

    private static void severalFaults() {
        TypedText x = types();
        // The least place counts, whatever comes behind it.
        Check.fault(x, 5, "{\"B\":t,}", TypedText.NAME, 3);
        Check.fault(x, 4, "[100,t", TypedText.RANGE, 3);
        Check.fault(x, 4, "[t,100", TypedText.TYPE, 1);
        Check.fault(x, 0, "100}", TypedText.RANGE, 2);
        Check.fault(x, 5, "{}}", TypedText.MISSING, 1);
        // SYNTAX first where several are at one place.
        Check.fault(x, 11, "]", TypedText.SYNTAX, 0);
        Check.fault(x, 2, ",", TypedText.SYNTAX, 0);
        // UNDEFINED before TYPE, DEEP and RANGE.
        x.list(0, 11, 0, 0);
        Check.fault(x, 0, "[t]", TypedText.UNDEFINED, 1);
        x.list(0, 3, 0, 0);
        Check.fault(x, 0, "[t]", TypedText.RANGE, 1);
        Check.fault(x, 0, "[n]", TypedText.TYPE, 1);
        // DEEP before RANGE.
        x.list(10, 10, 0, 1);
        x.list(1, 10, 0, 0);
        x.list(10, 2, 0, 1);
        x.list(2, 4, 0, 1);
        x.list(4, 5, 0, 1);
        x.list(5, 6, 0, 1);
        x.list(6, 0, 0, 1);
        x.list(0, 7, 0, 0);
        x.list(7, 7, 0, 0);
        Check.fault(x, 10, "[[[[[[[", TypedText.DEEP, 6);
        Check.fault(x, 2, "[[[[[[", TypedText.RANGE, 5);
    }

    private static void latestBind() {
        TypedText x = types();
        Check.fault(x, 0, "100", TypedText.RANGE, 2);
        x.put(1);
        Check.same("place behind put", 2, x.place());
        x.wipe();
        Check.same("place behind wipe", 2, x.place());
        x.simple(0, 0, 0, 0, 100);
        Check.same("place behind simple", 2, x.place());
        Check.fault(x, 0, "100", TypedText.OK, -1);
        Check.same("bound", 1, x.nodes());
        Check.same("bind to another", TypedText.TYPE, x.bind(3));
        Check.same("nothing is bound", 0, x.nodes());
        Check.same("place", 0, x.place());
        Check.same("bind again", TypedText.OK, x.bind(0));
        Check.same("bound again", 1, x.nodes());
        Check.same("bind to no slot", TypedText.UNDEFINED, x.bind(12));
        Check.same("nothing is bound", 0, x.nodes());
    }
}
