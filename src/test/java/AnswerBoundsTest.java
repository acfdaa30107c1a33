import java.math.BigDecimal;
import java.util.ArrayList;
import java.util.List;

/**
 * Promises 10 to 16, sentence by sentence: each boundary case at the last value that is taken and at the
 * first one that is not, and what the calls after a fault or a refused call answer.
 */
public final class AnswerBoundsTest {
    private static final int LEAST = Integer.MIN_VALUE;
    private static final int MOST = Integer.MAX_VALUE;

    public static void main(String[] args) {
        bindSlots();
        bindNoSlot();
        bindAgain();
        bindAfterFault();
        placeOfLatest();
        placeMost();
        placeStays();
        nodesCount();
        nodesNone();
        nodeOutside();
        nodeNone();
        printSpaces();
        printFieldsInOrder();
        printFieldsThere();
        printTagFirst();
        printNumbers();
        printReferences();
        printNoE();
        printTexts();
        printNothingBound();
        printedOutside();
        printed192();
        printedLast();
        limitsPrint();
        limitsRefused();
        limitsTags();
        limitsSimple();
        limitsCutNumbers();
        limitsWholeNumbers();
        limitsWrapped();
        Check.end();
    }

    /** 0 number of two decimals, 1 text, 2 flag, 3 list, 4 record A, B, 5 choice by D, 6 possible, 7 shared, 8 list of shared. */
    private static TypedText types() {
        TypedText x = new TypedText();
        x.simple(0, 0, 2, -9999, 9999);
        x.simple(1, 1, 9, 0, 0);
        x.simple(2, 2, 0, 0, 0);
        x.list(3, 0, 0, 20);
        x.members(4, -1);
        x.field(4, 1, 0, true);
        x.field(4, 0, 1, false);
        x.members(5, 3);
        x.tag(5, 4, 4);
        x.wrap(6, 0, 4);
        x.wrap(7, 1, 4);
        x.list(8, 7, 0, 20);
        return x;
    }

    // ---- promise 10 ----

    private static void bindSlots() {
        Check.sentence("Binds the text to the type in a slot: OK or the fault.");
        for (int slot = 0; slot < 12; slot++) {
            TypedText x = new TypedText();
            x.simple(slot, 2, 0, 0, 0);
            x.put(28);
            for (int other = 0; other < 12; other++) {
                Check.same("bind(" + other + ")", other == slot ? TypedText.OK : TypedText.UNDEFINED, x.bind(other));
                Check.same("place", other == slot ? -1 : 0, x.place());
                Check.same("nodes", other == slot ? 1 : 0, x.nodes());
            }
        }
    }

    private static void bindNoSlot() {
        Check.sentence("UNDEFINED (place 0), too, if there is no such slot.");
        String[] texts = {"", " ", "   1", "1", "}", "{'B':1}", "'" + "A".repeat(95), " ".repeat(96), " ".repeat(95) + "t"};
        for (int slot : new int[] {-1, 12, 13, -12, 100, LEAST, MOST}) {
            for (String text : texts) {
                TypedText x = types();
                Check.fault(x, slot, text, TypedText.UNDEFINED, 0);
                Check.same("printed", -1, x.printed(0));
                Check.same("length", text.length(), x.wipe());
                Check.same("place behind wipe", 0, x.place());
                // All else goes on as before.
                Check.prints(x, 4, "{'B':1}", "{'B':1}");
            }
        }
    }

    private static void bindAgain() {
        Check.sentence("Binds the text to the type in a slot: OK or the fault.");
        TypedText x = types();
        Check.write(x, "{'B':1}");
        int[] slots = {4, 12, 4, 2, 6, -1, 7, 5, 4, 4};
        int[] codes = {0, 2, 0, 3, 0, 2, 0, 7, 0, 0};
        int[] places = {-1, 0, -1, 0, -1, 0, -1, 3, -1, -1};
        for (int k = 0; k < slots.length; k++) {
            Check.same("bind(" + slots[k] + ")", codes[k], x.bind(slots[k]));
            Check.same("place", places[k], x.place());
            Check.same("nodes", codes[k] == 0 ? "4/0/-1/-1 0/100/0/1" : "", Check.nodesOf(x));
            Check.same("print", codes[k] == 0 ? 7 : 0, x.print());
        }
        Check.same("the text is still there", 7, x.wipe());
    }

    private static void bindAfterFault() {
        Check.sentence("Binds the text to the type in a slot: OK or the fault.");
        // Whatever the fault was and wherever the text was left, the next bind answers as that of a new object.
        String[] left = {"", "-", "1.", "1e", "1e-", "'", "'\\", "'A", "'A\\A", "[", "[1", "[1,", "[t", "[100", "{", "{'", "{'\\", "{'B'",
            "{'B':", "{'B':1", "{'B':1,", "{'C'", "{}", "{'B':100", "{'D'", "{'D':", "{'D':4", "{'D':9", "{'D':4,'B':1",
            "[{'B':1}", "[{'B':1},{'B':1},", "[{'B':1},{'B'", "[[[[[[[", "}"};
        String[] next = {"1", "-1.5e0", "'A'", "'\\\\'", "t", "[]", "[1,2]", "{'B':1}", "{'A':'','B':1}", "{'D':4,'B':1}", "n",
            "[{'B':1},0]", "[[]]", "0", "[0]", "{'D':4}", "{}", "'", ""};
        for (String one : left) {
            for (int slot = 0; slot < 10; slot++) {
                for (String two : next) {
                    TypedText x = types9();
                    Check.write(x, one);
                    x.bind(slot);
                    Check.same(two + " after " + one + " in slot " + slot, answers(types9(), two), answers(x, two));
                }
            }
        }
    }

    private static TypedText types9() {
        TypedText x = types();
        x.list(9, 9, 0, 9);
        return x;
    }

    private static String answers(TypedText x, String text) {
        StringBuilder all = new StringBuilder();
        Check.write(x, text);
        for (int slot = 0; slot < 10; slot++) {
            all.append(x.bind(slot)).append(" at ").append(x.place()).append(' ').append(Check.nodesOf(x));
            all.append(x.print()).append(' ').append(Check.printedOf(x)).append("; ");
        }
        return all.toString();
    }

    // ---- promise 11 ----

    private static void placeOfLatest() {
        Check.sentence("The fault's place of the latest bind; -1 if it was OK or there was none.");
        TypedText x = types();
        Check.same("place before a bind", -1, x.place());
        x.put(20);
        x.wipe();
        Check.same("place before a bind", -1, x.place());
        Check.fault(x, 0, "100", TypedText.RANGE, 2);
        Check.fault(x, 0, "1", TypedText.OK, -1);
        Check.fault(x, 0, "t", TypedText.TYPE, 0);
        Check.fault(x, 0, " t", TypedText.TYPE, 1);
        Check.fault(x, 0, "1", TypedText.OK, -1);
    }

    private static void placeMost() {
        Check.sentence("The fault's place");
        for (int length = 0; length <= 96; length++) {
            Check.fault(types(), 0, " ".repeat(length), TypedText.SYNTAX, length);
            if (length > 0) {
                Check.fault(types(), 0, " ".repeat(length - 1) + "t", TypedText.TYPE, length - 1);
            }
        }
    }

    private static void placeStays() {
        Check.sentence("The fault's place of the latest bind");
        TypedText x = types();
        Check.fault(x, 0, "100 ", TypedText.RANGE, 2);
        Check.same("put", true, x.put(20));
        Check.same("place behind put", 2, x.place());
        Check.same("put of none", false, x.put(32));
        Check.same("place behind a refused put", 2, x.place());
        Check.same("wipe", 5, x.wipe());
        Check.same("place behind wipe", 2, x.place());
        Check.same("simple", true, x.simple(0, 2, 0, 0, 0));
        Check.same("place behind simple", 2, x.place());
        Check.same("simple of no slot", false, x.simple(12, 2, 0, 0, 0));
        Check.same("place behind a refused simple", 2, x.place());
        Check.same("print", 0, x.print());
        Check.same("printed", -1, x.printed(0));
        Check.same("nodes", 0, x.nodes());
        Check.same("node", -1, x.node(0, 0));
        Check.same("place behind all these", 2, x.place());
        Check.same("place again", 2, x.place());
    }

    // ---- promises 12 and 13 ----

    private static void nodesCount() {
        Check.sentence("How many nodes the text bound has");
        TypedText x = types();
        x.list(9, 2, 0, 20);
        x.list(10, 9, 0, 20);
        for (int count = 1; count <= 20; count += 19) {
            Check.fault(x, 9, "[t" + ",t".repeat(count - 1) + "]", TypedText.OK, -1);
            Check.same("nodes", count + 1, x.nodes());
        }
        Check.fault(x, 2, "t", TypedText.OK, -1);
        Check.same("nodes", 1, x.nodes());
        Check.fault(x, 10, "[[t" + ",t".repeat(19) + "],[t" + ",t".repeat(16) + "]]", TypedText.OK, -1);
        Check.same("nodes", 40, x.nodes());
        Check.same("nodes again", 40, x.nodes());
    }

    private static void nodesNone() {
        Check.sentence("0 if the latest bind was not OK, or nothing is bound any more");
        TypedText x = types();
        Check.same("nodes before a bind", 0, x.nodes());
        Check.fault(x, 4, "{'B':1}", TypedText.OK, -1);
        Check.same("nodes", 2, x.nodes());
        // Each fault, far behind the first nodes.
        String[] wrong = {"{'B':1", "{'B':t", "{'B':100}", "{'B':1,'C'", "{'A':''}"};
        int[] codes = {TypedText.SYNTAX, TypedText.TYPE, TypedText.RANGE, TypedText.NAME, TypedText.MISSING};
        int[] places = {6, 5, 7, 9, 7};
        for (int k = 0; k < wrong.length; k++) {
            Check.fault(x, 4, "{'B':1}", TypedText.OK, -1);
            Check.fault(x, 4, wrong[k], codes[k], places[k]);
        }
        Check.fault(x, 4, "{'B':1}", TypedText.OK, -1);
        Check.same("bind to no slot", TypedText.UNDEFINED, x.bind(12));
        Check.same("nodes", 0, x.nodes());
        Check.same("node", -1, x.node(0, 0));
    }

    private static void nodeOutside() {
        Check.sentence("Of node k what 0: its kind; 1: value; 2: parent; 3: name; -1 if there is none.");
        TypedText x = types();
        Check.fault(x, 3, "[0.05,0.06]", TypedText.OK, -1);
        int[][] due = {{3, 2, -1, -1}, {0, 5, 0, 0}, {0, 6, 0, 1}};
        for (int k : new int[] {LEAST, -2, -1, 0, 1, 2, 3, 4, 39, 40, 41, MOST}) {
            for (int what : new int[] {LEAST, -1, 0, 1, 2, 3, 4, MOST}) {
                boolean there = k >= 0 && k < 3 && what >= 0 && what < 4;
                Check.same("node(" + k + ", " + what + ")", there ? due[k][what] : -1, x.node(k, what));
            }
        }
        // Those of a longer text that was bound before are no more.
        Check.fault(x, 0, "0.07", TypedText.OK, -1);
        Check.same("node(0, 1)", 7, x.node(0, 1));
        Check.same("node(1, 1)", -1, x.node(1, 1));
    }

    private static void nodeNone() {
        Check.sentence("-1 if there is none");
        TypedText x = types();
        for (int step = 0; step < 5; step++) {
            Check.fault(x, 0, "7", TypedText.OK, -1);
            Check.same("node", 700, x.node(0, 1));
            switch (step) {
                case 0:
                    x.put(20);
                    break;
                case 1:
                    x.wipe();
                    break;
                case 2:
                    x.simple(11, 2, 0, 0, 0);
                    break;
                case 3:
                    x.bind(1);
                    break;
                default:
                    x.bind(-1);
                    break;
            }
            for (int what = 0; what < 4; what++) {
                Check.same("node of nothing, step " + step, -1, x.node(0, what));
            }
        }
    }

    // ---- promise 14 ----

    private static void printSpaces() {
        Check.sentence("Prints what is bound: no spaces");
        Check.prints(types(), 4, " { 'A' : ' A ' , 'B' : 1 } ", "{'B':1,'A':' A '}");
        Check.prints(types(), 3, " [ 1 , 2 ] ", "[1,2]");
        Check.prints(types(), 3, " [ ] ", "[]");
        Check.prints(types(), 2, "  t  ", "t");
        Check.prints(types(), 6, "  n  ", "n");
        Check.prints(types(), 8, "[ { 'B' : 1 } , 0 ]", "[{'B':1},0]");
        // As many lists as a text of 96 has room for.
        TypedText x = types();
        x.list(9, 9, 0, 20);
        String lists = "[[[[[[]]]]],[[],[],[],[],[],[],[],[],[],[]],[[],[],[],[],[],[],[],[]],[[[[],[]]]],[],[],[]]";
        Check.prints(x, 9, lists, lists);
    }

    private static void orders(List<Integer> done, List<Integer> left, List<List<Integer>> all) {
        if (left.isEmpty()) {
            all.add(done);
        }
        for (Integer next : left) {
            List<Integer> more = new ArrayList<>(done);
            more.add(next);
            List<Integer> less = new ArrayList<>(left);
            less.remove(next);
            orders(more, less, all);
        }
    }

    private static String record(List<Integer> names) {
        List<String> members = new ArrayList<>();
        for (int name : names) {
            members.add("'" + "ABCDEF".charAt(name) + "':" + name);
        }
        return "{" + String.join(",", members) + "}";
    }

    private static TypedText added(List<Integer> names) {
        TypedText x = new TypedText();
        x.simple(0, 0, 0, 0, 9);
        x.members(1, -1);
        for (int name : names) {
            Check.same("field", true, x.field(1, name, 0, false));
        }
        return x;
    }

    private static void printFieldsInOrder() {
        Check.sentence("fields of records in the order in which they were added");
        List<List<Integer>> all = new ArrayList<>();
        orders(new ArrayList<>(), List.of(0, 2, 4, 5), all);
        Check.same("orders of four", 24, all.size());
        for (List<Integer> order : all) {
            for (List<Integer> given : all) {
                Check.prints(added(order), 1, record(given), record(order));
            }
        }
        // Records of two sorts at one depth, each in its own order.
        TypedText x = added(List.of(5, 0));
        x.members(2, -1);
        x.field(2, 0, 0, false);
        x.field(2, 5, 0, false);
        x.members(3, -1);
        x.field(3, 3, 1, false);
        x.field(3, 1, 2, false);
        Check.prints(x, 3, "{'B':{'A':0,'F':5},'D':{'A':0,'F':5}}", "{'D':{'F':5,'A':0},'B':{'A':0,'F':5}}");
        Check.prints(x, 3, "{'D':{'F':5,'A':0},'B':{'F':5,'A':0}}", "{'D':{'F':5,'A':0},'B':{'A':0,'F':5}}");
    }

    private static void printFieldsThere() {
        Check.sentence("(of those there)");
        List<Integer> order = List.of(5, 0, 4, 2);
        for (int there = 0; there < 16; there++) {
            List<Integer> due = new ArrayList<>();
            List<Integer> given = new ArrayList<>();
            for (int k = 0; k < 4; k++) {
                if ((there >> k & 1) == 1) {
                    due.add(order.get(k));
                    given.add(0, order.get(k));
                }
            }
            Check.prints(added(order), 1, record(given), record(due));
        }
    }

    private static void printTagFirst() {
        Check.sentence("a choice's tag first");
        Check.prints(types(), 5, "{'D':4,'A':'','B':1}", "{'D':4,'B':1,'A':''}");
        Check.prints(types(), 5, "{'D':4.0,'B':1}", "{'D':4,'B':1}");
        Check.prints(types(), 5, "{'D':40e-1,'B':1}", "{'D':4,'B':1}");
        for (int tag = 0; tag < 6; tag++) {
            for (int name = 0; name < 6; name++) {
                TypedText x = types();
                x.members(9, -1);
                x.members(5, name);
                x.tag(5, tag, 9);
                String text = "{'" + "ABCDEF".charAt(name) + "':" + tag + "}";
                Check.prints(x, 5, text, text);
            }
        }
        TypedText x = types();
        x.members(9, -1);
        x.members(5, 5);
        x.tag(5, 0, 9);
        Check.prints(x, 5, "{'F':-0}", "{'F':0}");
    }

    private static void printNumbers() {
        Check.sentence("numbers as digits without zeros in front (but one before the point, and for 0) and behind the point");
        int[] units = {0, 1, -1, 5, 9, 10, -10, 11, 99, 100, -100, 101, 110, 999, 1000, 1001, 1010, 1100, -1100, 9999, 10000, -10000,
            10001, 10010, 10100, 11000, 99999, 100000, -100000, 100001, 123456789, 1000000000, -1000000000, 2000000000,
            1999999999, MOST, MOST - 7, LEAST, LEAST + 8};
        for (int decimals = 0; decimals <= 4; decimals++) {
            for (int value : units) {
                TypedText x = new TypedText();
                x.simple(0, 0, decimals, LEAST, MOST);
                BigDecimal exact = BigDecimal.valueOf(value, decimals);
                String due = value == 0 ? "0" : exact.stripTrailingZeros().toPlainString();
                Check.prints(x, 0, exact.toPlainString(), due);
                Check.prints(x, 0, value + "e-" + decimals, due);
                Check.same("print bound again", TypedText.OK, rebound(x, due));
                Check.same("units of what is printed", value, x.node(0, 1));
            }
        }
    }

    private static int rebound(TypedText x, String text) {
        Check.write(x, text);
        return x.bind(0);
    }

    private static void printReferences() {
        Check.sentence("numbers as digits without zeros in front");
        TypedText x = types();
        x.members(4, -1);
        Check.prints(x, 8, "[{},{},{},0,1,2,2.0,10e-1,-0]", "[{},{},{},0,1,2,2,1,0]");
        String eleven = "[{}" + ",{}".repeat(10);
        Check.prints(x, 8, eleven + ",9,10]", eleven + ",9,10]");
        Check.prints(x, 8, eleven + ",1e1,100e-1]", eleven + ",10,10]");
    }

    private static void printNoE() {
        Check.sentence("(nor the point, if nothing is behind it), - if below 0, no e");
        TypedText x = new TypedText();
        x.simple(0, 0, 4, LEAST, MOST);
        Check.prints(x, 0, "1.0000", "1");
        Check.prints(x, 0, "1.5000", "1.5");
        Check.prints(x, 0, "-0.0", "0");
        Check.prints(x, 0, "-0e5", "0");
        Check.prints(x, 0, "-0.0001", "-0.0001");
        Check.prints(x, 0, "1e5", "100000");
        Check.prints(x, 0, "1e-4", "0.0001");
        Check.prints(x, 0, "-10e-1", "-1");
        Check.prints(x, 0, "0.10", "0.1");
        Check.prints(x, 0, "10.01e+1", "100.1");
    }

    private static void printTexts() {
        Check.sentence("texts with \\ before \" and \\");
        Check.prints(types(), 1, "''", "''");
        for (int c = 0; c < 32; c++) {
            String sign = (c == 16 || c == 30 ? "\\" : "") + Check.SIGNS.charAt(c);
            Check.prints(types(), 1, "\"" + sign + "\"", "\"" + sign + "\"");
            Check.prints(types(), 1, " \"A" + sign + sign + "\" ", "\"A" + sign + sign + "\"");
        }
        Check.prints(types(), 4, "{'A':'\\\\\\\"','B':1}", "{'B':1,'A':'\\\\\\\"'}");
    }

    private static void printNothingBound() {
        Check.sentence("Answers its length; 0 if nothing is bound.");
        TypedText x = types();
        Check.same("print before a bind", 0, x.print());
        Check.prints(x, 2, "t", "t");
        Check.same("print again", 1, x.print());
        x.put(20);
        Check.same("print behind put", 0, x.print());
        Check.prints(x, 2, "t", "t");
        x.wipe();
        Check.same("print behind wipe", 0, x.print());
        Check.prints(x, 2, "t", "t");
        x.members(11, -1);
        Check.same("print behind members", 0, x.print());
        Check.prints(x, 2, "t", "t");
        Check.same("bind", TypedText.TYPE, x.bind(0));
        Check.same("print behind a fault", 0, x.print());
    }

    // ---- promise 15 ----

    private static void printedOutside() {
        Check.sentence("Character k (0 first) of what was printed last; -1 if there is none");
        TypedText x = types();
        for (int k : new int[] {LEAST, -1, 0, 1, 191, 192, MOST}) {
            Check.same("printed(" + k + ") before a print", -1, x.printed(k));
        }
        Check.prints(x, 3, "[1,2]", "[1,2]");
        int[] due = {12, 1, 15, 2, 13};
        for (int k : new int[] {LEAST, -2, -1, 0, 1, 2, 3, 4, 5, 6, 191, 192, MOST}) {
            Check.same("printed(" + k + ")", k >= 0 && k < 5 ? due[k] : -1, x.printed(k));
        }
    }

    private static TypedText wide(String text) {
        TypedText x = new TypedText();
        x.simple(0, 0, 0, 0, MOST);
        x.list(1, 0, 0, 20);
        Check.fault(x, 1, text, TypedText.OK, -1);
        return x;
    }

    private static void printed192() {
        Check.sentence("(192 are kept)");
        String seventeen = "[2e9" + ",1e9".repeat(16);
        String long17 = "[2000000000" + ",1000000000".repeat(16);
        String[] ends = {",1]", ",11]", ",1,3]", ",12,3]", ",123,45]", ",1e9,1e9,1e9]"};
        for (String end : ends) {
            String whole = long17 + end.replace("1e9", "1000000000");
            TypedText x = wide(seventeen + end);
            Check.same("length", whole.length(), x.print());
            Check.same("kept", whole.substring(0, Math.min(192, whole.length())), Check.printedOf(x));
            Check.same("printed(191)", whole.length() > 191 ? Check.SIGNS.indexOf(whole.charAt(191)) : -1, x.printed(191));
            Check.same("printed(192)", -1, x.printed(192));
            Check.same("printed behind the end", -1, x.printed(whole.length()));
            Check.same("printed(length - 1)", whole.length() > 192 ? -1 : 13, x.printed(whole.length() - 1));
        }
        // A short print behind a long one leaves nothing of it.
        TypedText x = wide(seventeen + ",1e9,1e9,1e9]");
        Check.same("long print", 221, x.print());
        Check.prints(x, 1, "[]", "[]");
        Check.same("printed(2)", -1, x.printed(2));
        Check.same("printed(191)", -1, x.printed(191));
    }

    private static void printedLast() {
        Check.sentence("of what was printed last");
        TypedText x = types();
        Check.prints(x, 3, "[1,2]", "[1,2]");
        Check.fault(x, 2, "t", TypedText.OK, -1);
        Check.same("printed behind another bind", "[1,2]", Check.printedOf(x));
        x.wipe();
        x.put(1);
        x.simple(11, 2, 0, 0, 0);
        Check.same("bind with a fault", TypedText.TYPE, x.bind(2));
        Check.same("printed behind a fault", "[1,2]", Check.printedOf(x));
        Check.same("bind", TypedText.OK, x.bind(0));
        Check.same("print", 1, x.print());
        Check.same("printed", "1", Check.printedOf(x));
    }

    // ---- promise 16 ----

    private static void limitsPrint() {
        Check.sentence("print: where nothing is bound the answer is 0, and nothing was printed last then: printed answers -1.");
        TypedText x = types();
        Check.prints(x, 3, "[1,2]", "[1,2]");
        x.put(20);
        Check.same("printed before the print", 12, x.printed(0));
        Check.same("print", 0, x.print());
        for (int k = -1; k < 6; k++) {
            Check.same("printed(" + k + ")", -1, x.printed(k));
        }
        Check.same("bind", TypedText.OK, x.bind(3));
        Check.same("printed before the print", -1, x.printed(0));
        Check.same("print", 5, x.print());
        Check.same("printed", "[1,2]", Check.printedOf(x));
    }

    private static void limitsRefused() {
        Check.sentence("a call that is refused (by a code below 0 that is named, or by false) changes nothing");
        TypedText x = types();
        Check.prints(x, 8, "[{'B':1},0]", "[{'B':1},0]");
        String nodes = Check.nodesOf(x);
        for (int k = 0; k < 3; k++) {
            Check.same("node(-1, 0)", -1, x.node(-1, 0));
            Check.same("node(4, 0)", -1, x.node(4, 0));
            Check.same("node(0, 4)", -1, x.node(0, 4));
            Check.same("printed(-1)", -1, x.printed(-1));
            Check.same("printed(11)", -1, x.printed(11));
            Check.same("put(32)", false, x.put(32));
            Check.same("simple", false, x.simple(0, 3, 0, 0, 0));
            Check.same("list", false, x.list(8, 7, 0, 21));
            Check.same("members", false, x.members(4, 6));
            Check.same("field", false, x.field(4, 1, 0, false));
            Check.same("tag", false, x.tag(5, 6, 4));
            Check.same("wrap", false, x.wrap(7, 2, 4));
        }
        Check.same("place", -1, x.place());
        Check.same("nodes", nodes, Check.nodesOf(x));
        Check.same("printed", Check.quoted("[{'B':1},0]"), Check.printedOf(x));
        Check.same("print", 11, x.print());
        Check.same("bind", TypedText.OK, x.bind(8));
        Check.same("nodes of the bind", nodes, Check.nodesOf(x));
        Check.same("wipe", 11, x.wipe());
    }

    private static void limitsTags() {
        Check.sentence("A tag's value that does not begin with - or a digit is a fault TYPE at its first character; a tag is never ..");
        for (char begin : "\"tf[{n".toCharArray()) {
            Check.fault(types(), 5, "{'D':" + begin, TypedText.TYPE, 5);
            Check.fault(types(), 5, "{'D':  " + begin, TypedText.TYPE, 7);
        }
        for (char begin : "}],:.e+A\\".toCharArray()) {
            Check.fault(types(), 5, "{'D': " + begin, TypedText.SYNTAX, 6);
        }
        Check.fault(types(), 5, "{'D':-", TypedText.SYNTAX, 6);
        Check.fault(types(), 5, "{'D':0", TypedText.RANGE, 5);
        Check.fault(types(), 5, "{'D':4", TypedText.SYNTAX, 6);
        // Never UNDEFINED: the slot of the tag has no type. Never DEEP: in six others.
        TypedText x = types();
        x.tag(5, 0, 11);
        Check.fault(x, 5, "{'D':0", TypedText.RANGE, 5);
        Check.fault(x, 5, "{'D':[", TypedText.TYPE, 5);
        x.members(11, -1);
        x.tag(5, 0, 11);
        x.list(10, 5, 0, 1);
        for (int slot = 9; slot >= 6; slot--) {
            x.list(slot, slot + 1, 0, 1);
        }
        Check.fault(x, 6, "[[[[[{'D':0}]]]]]", TypedText.OK, -1);
        Check.fault(x, 6, "[[[[[{'D':[", TypedText.TYPE, 10);
        Check.fault(x, 6, "[[[[[{'D':{", TypedText.TYPE, 10);
    }

    private static void limitsSimple() {
        Check.sentence("simple: b and c are looked at for a NUMBER only, a for a NUMBER and a TEXT.");
        int[] any = {LEAST, -1, 0, 1, 5, 41, MOST};
        for (int a : any) {
            for (int b : any) {
                for (int c : any) {
                    TypedText x = new TypedText();
                    Check.same("flag", true, x.simple(0, 2, a, b, c));
                    Check.same("text", a >= 0 && a <= 40, x.simple(0, 1, a, b, c));
                    Check.same("number", a >= 0 && a <= 4 && b <= c, x.simple(0, 0, a, b, c));
                }
            }
        }
        TypedText x = new TypedText();
        x.simple(0, 2, -9, 9, -9);
        Check.fault(x, 0, "t", TypedText.OK, -1);
        x.simple(0, 1, 1, 9, -9);
        Check.fault(x, 0, "'A'", TypedText.OK, -1);
        Check.fault(x, 0, "''", TypedText.OK, -1);
    }

    /** 0 number 1..9, 1 list of it, 2 choice by A with tag 1 of an empty record, 4 list of shared. */
    private static TypedText small() {
        TypedText x = new TypedText();
        x.simple(0, 0, 0, 1, 9);
        x.list(1, 0, 0, 20);
        x.members(2, 0);
        x.members(3, -1);
        x.tag(2, 1, 3);
        x.wrap(4, 1, 3);
        x.list(5, 4, 0, 20);
        return x;
    }

    private static void limitsCutNumbers() {
        Check.sentence("a number that is cut off (the fault SYNTAX is inside it or behind its last character, where one must stand) has no fault RANGE");
        String[] cut = {"-", "0.", "-0.", "77.", "-77.", "77e", "77e+", "77e-", "7.5e", "7.5e-", "0e", "0.0e+", "99999999999."};
        String[] behind = {"", " ", "}", "]", ",", "A", "n", "\"", ".", " 1"};
        for (String number : cut) {
            for (String rest : behind) {
                Check.fault(small(), 0, number + rest, TypedText.SYNTAX, number.length());
                Check.fault(small(), 1, "[1, " + number + rest, TypedText.SYNTAX, number.length() + 4);
                Check.fault(small(), 2, "{'A':" + number + rest, TypedText.SYNTAX, number.length() + 5);
                Check.fault(small(), 5, "[" + number + rest, TypedText.SYNTAX, number.length() + 1);
            }
        }
    }

    private static void limitsWholeNumbers() {
        Check.sentence("whatever its digits; one that could end there has");
        String[] whole = {"0", "-0", "77", "-7", "7.5", "7e1", "70e-2", "7e+1", "99999999999", "10"};
        String[] behind = {"", " ", "}", ":", "A", "n", "\"", "+", " 1", "{"};
        for (String number : whole) {
            for (String rest : behind) {
                int last = number.length() - 1;
                Check.fault(small(), 0, number + rest, TypedText.RANGE, last);
                Check.fault(small(), 1, "[1, " + number + rest, TypedText.RANGE, last + 4);
                Check.fault(small(), 2, "{'A':" + number + rest, TypedText.RANGE, last + 5);
                if (!number.endsWith("0")) {
                    Check.fault(small(), 5, "[{}," + number + rest, TypedText.RANGE, last + 4);
                }
            }
        }
        // A zero that a digit follows could end there.
        Check.fault(small(), 0, "01", TypedText.RANGE, 0);
        Check.fault(small(), 0, "-01", TypedText.RANGE, 1);
        Check.fault(small(), 1, "[1,05", TypedText.RANGE, 3);
        Check.fault(small(), 2, "{'A':01", TypedText.RANGE, 5);
        // A second point or e behind what could end.
        Check.fault(small(), 0, "7.5.", TypedText.RANGE, 2);
        Check.fault(small(), 0, "7e1e", TypedText.RANGE, 2);
        Check.fault(small(), 0, "7e1.", TypedText.RANGE, 2);
        // One of its type has none: there the fault is behind it.
        Check.fault(small(), 0, "7}", TypedText.SYNTAX, 1);
        Check.fault(small(), 0, "7.0.", TypedText.SYNTAX, 3);
        Check.fault(small(), 2, "{'A':1]", TypedText.SYNTAX, 6);
    }

    private static void limitsWrapped() {
        Check.sentence("SHARED of a CHOICE is UNDEFINED, and POSSIBLE of a slot without a type, or of a POSSIBLE or SHARED one, too");
        int[][] wrong = {{1, 5}, {0, 11}, {0, 6}, {0, 7}, {0, 9}, {1, 11}, {1, 6}, {1, 7}, {1, 9}, {1, 0}, {1, 1}, {1, 2}, {1, 3}};
        for (int[] pair : wrong) {
            for (char begin : "-0\"tf[{n".toCharArray()) {
                TypedText x = types();
                x.wrap(9, pair[0], pair[1]);
                Check.fault(x, 9, " " + begin, TypedText.UNDEFINED, 1);
            }
            TypedText x = types();
            x.wrap(9, pair[0], pair[1]);
            Check.fault(x, 9, " }", TypedText.SYNTAX, 1);
            Check.fault(x, 9, " ", TypedText.SYNTAX, 1);
        }
        // The next ones are fine: POSSIBLE of all others, SHARED of a record.
        for (int of = 0; of <= 5; of++) {
            TypedText x = types();
            x.wrap(9, 0, of);
            Check.nodes(x, 9, "n", "5/0/-1/-1");
        }
        TypedText x = types();
        x.wrap(9, 1, 4);
        Check.fault(x, 9, "{'B':1}", TypedText.OK, -1);
    }
}
