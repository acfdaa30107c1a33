/**
 * The faults of the document's terms, sentence by sentence: the place of each, the last text that has
 * none and the first that has one, and which of several counts.
 */
public final class FaultBoundsTest {
    public static void main(String[] args) {
        leastPlace();
        typePlaces();
        undefinedPlaces();
        deepLists();
        deepRecords();
        deepOthers();
        manyLast();
        manyOfEachKind();
        manyTags();
        rangeOfNumbers();
        rangeOfTags();
        rangeOfReferences();
        rangeOfTexts();
        rangeOfElements();
        rangeOfTooFew();
        nameLetters();
        nameOfRecord();
        nameThere();
        nameOfChoice();
        missing();
        syntaxFirst();
        undefinedFirst();
        typeBeforeOthers();
        deepBeforeOthers();
        manyBeforeRange();
        Check.end();
    }

    private static final int NUMBER = 0, TEXT = 1, FLAG = 2, LIST = 3, RECORD = 4, CHOICE = 5, POSSIBLE = 6, SHARED = 7;
    private static final int NONE = 11;

    private static TypedText types() {
        TypedText x = new TypedText();
        x.simple(NUMBER, 0, 0, 0, 99);
        x.simple(TEXT, 1, 2, 0, 0);
        x.simple(FLAG, 2, 0, 0, 0);
        x.list(LIST, NUMBER, 1, 3);
        x.members(RECORD, -1);
        x.field(RECORD, 0, NUMBER, true);
        x.field(RECORD, 1, TEXT, false);
        x.members(CHOICE, 3);
        x.tag(CHOICE, 1, RECORD);
        x.wrap(POSSIBLE, 0, RECORD);
        x.wrap(SHARED, 1, RECORD);
        x.list(8, SHARED, 0, 20);
        return x;
    }

    private static void fine(int slot, String text) {
        Check.fault(types(), slot, text, TypedText.OK, -1);
    }

    private static void fault(int slot, String text, int code, int place) {
        Check.fault(types(), slot, text, code, place);
    }

    // ---- which counts ----

    private static void leastPlace() {
        Check.sentence("The one with the least PLACE counts");
        // Two faults in one list, in both orders.
        fault(LIST, "[100,t]", TypedText.RANGE, 3);
        fault(LIST, "[t,100]", TypedText.TYPE, 1);
        fault(LIST, "[100,}", TypedText.RANGE, 3);
        fault(LIST, "[},100", TypedText.SYNTAX, 1);
        fault(LIST, "[1,2,3,t}", TypedText.TYPE, 7);
        fault(LIST, "[1,2,3,4}", TypedText.RANGE, 7);
        // A fault that the text's end makes comes last, whatever its rank.
        fault(RECORD, "{'C", TypedText.SYNTAX, 3);
        fault(RECORD, "{'C'", TypedText.NAME, 3);
        fault(RECORD, "{'B':''}", TypedText.MISSING, 7);
        fault(RECORD, "{'B':''", TypedText.SYNTAX, 7);
        fault(RECORD, "{'B':''}}", TypedText.MISSING, 7);
        fault(RECORD, "{'B':'','C'", TypedText.NAME, 10);
        fault(CHOICE, "{}}", TypedText.NAME, 1);
        fault(CHOICE, "{'D':7,,", TypedText.RANGE, 5);
        fault(TEXT, "'AAA", TypedText.RANGE, 3);
        fault(TEXT, "'AA", TypedText.SYNTAX, 3);
        fault(TEXT, "'AA\\A", TypedText.SYNTAX, 4);
        // Only a bind to no slot is at 0 whatever the text is.
        fault(NONE, " }", TypedText.SYNTAX, 1);
        fault(NONE, " t}", TypedText.UNDEFINED, 1);
    }

    // ---- TYPE and UNDEFINED ----

    private static void typePlaces() {
        Check.sentence("TYPE (the value does not begin as its type wants: - or a digit for numbers and references, else \", t or f, [, {, n)");
        String begins = "-0123456789\"tf[{n";
        String[] wants = {"-0123456789", "\"", "tf", "[", "{", "{", "{n", "{-0123456789"};
        for (int slot = NUMBER; slot <= SHARED; slot++) {
            for (char begin : begins.toCharArray()) {
                TypedText x = types();
                Check.write(x, "  " + begin);
                boolean right = wants[slot].indexOf(begin) >= 0;
                Check.same("slot " + slot + " has a fault TYPE at " + begin, !right, x.bind(slot) == TypedText.TYPE);
                Check.same("slot " + slot + " has its fault at 2 for " + begin, true, right || x.place() == 2);
            }
        }
        // The first character of the value, behind spaces, in a list, a field and a tag.
        fault(LIST, "[1, t]", TypedText.TYPE, 4);
        fault(RECORD, "{'B': 1}", TypedText.TYPE, 6);
        fault(CHOICE, "{'D': t}", TypedText.TYPE, 6);
        fault(CHOICE, "{'D':1,'A': t}", TypedText.TYPE, 12);
        // What follows the first character is not looked at.
        fault(TEXT, "100", TypedText.TYPE, 0);
        fault(TEXT, "-", TypedText.TYPE, 0);
        fault(NUMBER, "'\\A", TypedText.TYPE, 0);
        fault(NUMBER, "[}", TypedText.TYPE, 0);
    }

    private static void undefinedPlaces() {
        Check.sentence("UNDEFINED, ..: the value's first character");
        for (char begin : "-0123456789\"tf[{n".toCharArray()) {
            fault(NONE, "" + begin, TypedText.UNDEFINED, 0);
            fault(NONE, "   " + begin, TypedText.UNDEFINED, 3);
        }
        TypedText x = types();
        x.list(9, NONE, 0, 9);
        x.members(10, -1);
        x.field(10, 5, NONE, false);
        Check.fault(x, 9, "[]", TypedText.OK, -1);
        Check.fault(x, 9, "[ 1]", TypedText.UNDEFINED, 2);
        Check.fault(x, 10, "{}", TypedText.OK, -1);
        Check.fault(x, 10, "{'F' : 1}", TypedText.UNDEFINED, 7);
    }

    // ---- DEEP ----

    private static TypedText nested() {
        TypedText x = new TypedText();
        // 0 list of itself, 1 record of itself, 2 choice whose record has the choice, 4 flag, 5 number.
        x.list(0, 0, 0, 20);
        x.members(1, -1);
        x.field(1, 0, 1, false);
        x.field(1, 1, 4, false);
        x.field(1, 2, 6, false);
        x.field(1, 3, 7, false);
        x.members(2, 5);
        x.tag(2, 0, 3);
        x.members(3, -1);
        x.field(3, 0, 2, false);
        x.field(3, 1, 1, false);
        x.simple(4, 2, 0, 0, 0);
        x.simple(5, 1, 9, 0, 0);
        x.wrap(6, 0, 1);
        x.wrap(7, 1, 1);
        return x;
    }

    private static void deepLists() {
        Check.sentence("DEEP: the { or [ of a value in more than five others");
        for (int others = 0; others <= 8; others++) {
            String text = "[".repeat(others + 1) + "]".repeat(others + 1);
            boolean deep = others > 5;
            Check.fault(nested(), 0, text, deep ? TypedText.DEEP : TypedText.OK, deep ? 6 : -1);
        }
        // Those that are closed hold nothing any more.
        Check.fault(nested(), 0, "[[[[[[]]]]],[[[[[]]]]]]", TypedText.OK, -1);
        Check.fault(nested(), 0, "[[[[[[]]]]],[[[[[ []]]]]]]", TypedText.DEEP, 18);
        Check.fault(nested(), 0, "[[],[],[],[],[],[],[]]", TypedText.OK, -1);
    }

    private static void deepRecords() {
        Check.sentence("DEEP: the { or [ of a value in more than five others");
        for (int others = 0; others <= 7; others++) {
            boolean deep = others > 5;
            String text = "{'A':".repeat(others) + "{" + "}".repeat(others + 1);
            Check.fault(nested(), 1, text, deep ? TypedText.DEEP : TypedText.OK, deep ? 30 : -1);
            text = "{'C':".repeat(others) + "{" + "}".repeat(others + 1);
            Check.fault(nested(), 1, text, deep ? TypedText.DEEP : TypedText.OK, deep ? 30 : -1);
            text = "{'D':".repeat(others) + "{" + "}".repeat(others + 1);
            Check.fault(nested(), 1, text, deep ? TypedText.DEEP : TypedText.OK, deep ? 30 : -1);
        }
        for (int others = 0; others <= 6; others++) {
            boolean deep = others > 5;
            String text = "{'F':0,'A':".repeat(others) + "{'F':0}" + "}".repeat(others);
            Check.fault(nested(), 2, text, deep ? TypedText.DEEP : TypedText.OK, deep ? 66 : -1);
        }
        // Choices, records and lists in one another.
        Check.fault(nested(), 2, "{'F':0,'A':{'F':0,'B':{'A':{'A':{'A':{}}}}}}", TypedText.OK, -1);
        Check.fault(nested(), 2, "{'F':0,'A':{'F':0,'B':{'A':{'A':{'A':{'A': {}", TypedText.DEEP, 43);
    }

    private static void deepOthers() {
        Check.sentence("DEEP: the { or [ of a value");
        // What has neither { nor [ may be in six others.
        String five = "{'A':".repeat(5);
        Check.fault(nested(), 1, five + "{'B':t}}}}}}", TypedText.OK, -1);
        Check.fault(nested(), 1, five + "{'C':n}}}}}}", TypedText.OK, -1);
        Check.fault(nested(), 1, "{'D':{},'A':" + five.substring(5) + "{'D':0}}}}}}", TypedText.OK, -1);
        Check.fault(nested(), 1, five + "{'A': {}}}}}}}", TypedText.DEEP, 31);
        Check.fault(nested(), 1, five + "{'C': {}}}}}}}", TypedText.DEEP, 31);
        Check.fault(nested(), 1, five + "{'D': {}}}}}}}", TypedText.DEEP, 31);
        // After a fault DEEP the object goes on as before.
        TypedText x = nested();
        Check.fault(x, 0, "[[[[[[[]]]]]]]", TypedText.DEEP, 6);
        Check.nodes(x, 0, "[[]]", "3/1/-1/-1 3/0/0/0");
        Check.prints(x, 0, "[[[[[[]]]]]]", "[[[[[[]]]]]]");
    }

    // ---- MANY ----

    /**
     * Slot 0: a record with A, a list of lists of flags, and B, of the type in slot 4.
     * With two lists of 20 and 16 flags those before B are 40.
     */
    private static TypedText wide() {
        TypedText x = new TypedText();
        x.members(0, -1);
        x.field(0, 0, 1, false);
        x.field(0, 1, 4, false);
        x.list(1, 2, 0, 20);
        x.list(2, 3, 0, 20);
        x.simple(3, 2, 0, 0, 0);
        return x;
    }

    private static String flags(int count) {
        return "[[t" + ",t".repeat(19) + "],[t" + ",t".repeat(count - 21) + "]]";
    }

    private static void manyLast() {
        Check.sentence("MANY: a value (not tags) that would be node 41: its first character.");
        for (int count = 21; count <= 38; count++) {
            // Three lists and the flags.
            String text = flags(count);
            int nodes = 3 + count;
            boolean many = nodes > 40;
            TypedText x = wide();
            Check.fault(x, 1, text, many ? TypedText.MANY : TypedText.OK, many ? text.length() - 3 : -1);
            Check.same("nodes of " + text, many ? 0 : nodes, x.nodes());
        }
        TypedText x = wide();
        String full = flags(37);
        Check.fault(x, 1, full, TypedText.OK, -1);
        Check.same("nodes", 40, x.nodes());
        Check.same("node 39", 2, x.node(39, 0));
        Check.same("node 39's parent", 22, x.node(39, 2));
        Check.same("node 39's name", 16, x.node(39, 3));
        Check.same("node 40", -1, x.node(40, 0));
        Check.same("print", full.length(), x.print());
        // After a fault MANY the object goes on as before.
        Check.fault(x, 1, flags(38), TypedText.MANY, flags(38).length() - 3);
        Check.nodes(x, 1, "[[t]]", "3/1/-1/-1 3/1/0/0 2/1/1/0");
    }

    private static void manyOfEachKind() {
        Check.sentence("MANY: a value (not tags) that would be node 41: its first character.");
        String[] values = {"7", "'A'", "t", "[]", "{}", "{'A':0}", "n", "{}"};
        for (int kind = 0; kind < values.length; kind++) {
            TypedText x = wide();
            x.members(5, -1);
            switch (kind) {
                case 0:
                    x.simple(4, 0, 0, 0, 9);
                    break;
                case 1:
                    x.simple(4, 1, 9, 0, 0);
                    break;
                case 2:
                    x.simple(4, 2, 0, 0, 0);
                    break;
                case 3:
                    x.list(4, 3, 0, 9);
                    break;
                case 4:
                    x.members(4, -1);
                    break;
                case 5:
                    x.members(4, 0);
                    x.tag(4, 0, 5);
                    break;
                case 6:
                    x.wrap(4, 0, 5);
                    break;
                default:
                    x.wrap(4, 1, 5);
                    break;
            }
            // 1 + 3 + 35 are 39, so the value is the 40th; with one flag more it would be the 41st.
            String before = "{'A':" + flags(35) + ",'B':";
            Check.fault(x, 0, before + values[kind] + "}", TypedText.OK, -1);
            Check.same("nodes", 40, x.nodes());
            before = "{'A':" + flags(36) + ",'B': ";
            Check.fault(x, 0, before + values[kind].charAt(0), TypedText.MANY, before.length());
        }
        // A reference, too: it is right but for the nodes before it.
        TypedText x = wide();
        x.list(1, 4, 0, 20);
        x.members(4, -1);
        x.field(4, 0, 2, false);
        x.field(4, 1, 5, false);
        x.wrap(5, 1, 4);
        // List, record, list, 20 flags, record, list, 15 flags are 40.
        String before = "[{'A':[t" + ",t".repeat(19) + "]},{'A':[t" + ",t".repeat(14) + "]";
        Check.fault(x, 1, before + "}]", TypedText.OK, -1);
        Check.same("nodes", 40, x.nodes());
        Check.fault(x, 1, before + ",'B':0", TypedText.MANY, before.length() + 5);
    }

    private static void manyTags() {
        Check.sentence("MANY: a value (not tags)");
        TypedText x = wide();
        x.members(4, 5);
        x.tag(4, 0, 0);
        // The choice, three lists and 36 flags are 40.
        String text = "{'F':0,'A':" + flags(36) + "}";
        Check.fault(x, 4, text, TypedText.OK, -1);
        Check.same("nodes", 40, x.nodes());
        text = "{'F':0,'A':" + flags(37) + "}";
        Check.fault(x, 4, text, TypedText.MANY, text.length() - 4);
        // The choice is the 40th, and its tag comes behind it.
        String before = "{'A':" + flags(35) + ",'B':";
        x = wide();
        x.members(4, 5);
        x.tag(4, 0, 5);
        x.members(5, -1);
        Check.fault(x, 0, before + "{'F':0}}", TypedText.OK, -1);
        Check.same("nodes", 40, x.nodes());
        Check.fault(x, 0, before + "{'F':1", TypedText.RANGE, before.length() + 5);
        Check.fault(x, 0, before + "{'F': n", TypedText.TYPE, before.length() + 6);
    }

    // ---- RANGE ----

    private static void rangeOfNumbers() {
        Check.sentence("RANGE: a number's last character, if it is none of its type");
        String[] wrong = {"100", "-1", "0.5", "1e2", "99.5", "1e-1", "100.0", "1e+2", "1000e-01", "1e002"};
        for (String number : wrong) {
            int last = number.length() - 1;
            fault(NUMBER, number, TypedText.RANGE, last);
            fault(NUMBER, number + "   ", TypedText.RANGE, last);
            fault(NUMBER, "   " + number, TypedText.RANGE, last + 3);
            fault(LIST, "[" + number + "]", TypedText.RANGE, last + 1);
            fault(LIST, "[1, " + number + " ,t", TypedText.RANGE, last + 4);
            fault(RECORD, "{'A':" + number + "}", TypedText.RANGE, last + 5);
            fault(NUMBER, " ".repeat(95 - last) + number, TypedText.RANGE, 95);
        }
        String[] right = {"99", "0", "-0", "99.0", "990e-1", "9.9e1", "0.99e+2", "0.5e1"};
        for (String number : right) {
            fine(NUMBER, number);
            fine(LIST, "[" + number + "]");
            fine(RECORD, "{'A':" + number + "}");
            fine(NUMBER, " ".repeat(96 - number.length()) + number);
        }
    }

    private static void rangeOfTags() {
        Check.sentence("(also tags, ..)");
        String[] wrong = {"0", "2", "5", "6", "7", "10", "-1", "1.5", "0.1", "1e1", "10e0", "1e-1", "4294967297", "-4294967295"};
        for (String tag : wrong) {
            int last = 5 + tag.length() - 1;
            fault(CHOICE, "{'D':" + tag + ",'A':1}", TypedText.RANGE, last);
            fault(CHOICE, "{'D': " + tag + " }", TypedText.RANGE, last + 1);
            fault(CHOICE, "{'D':" + tag, TypedText.RANGE, last);
        }
        String[] right = {"1", "1.0", "10e-1", "0.1e1", "1e0", "1.000e-0"};
        for (String tag : right) {
            fine(CHOICE, "{'D':" + tag + ",'A':1}");
        }
    }

    private static void rangeOfReferences() {
        Check.sentence("and references: no whole number, or not 0 to the number of complete records of the slot less 1");
        String two = "[{'A':1},{'A':2},";
        String[] wrong = {"2", "3", "-1", "0.5", "1.5", "1e1", "20e-1", "4294967296", "4294967297", "1e-1"};
        for (String k : wrong) {
            fault(8, two + k + "]", TypedText.RANGE, two.length() + k.length() - 1);
            fault(8, two + k + " ", TypedText.RANGE, two.length() + k.length() - 1);
        }
        String[] right = {"0", "1", "-0", "0.0", "10e-1", "0e9", "1.0", "0.1e1"};
        for (String k : right) {
            fine(8, two + k + "]");
        }
        // None are complete: not even 0.
        fault(SHARED, "0", TypedText.RANGE, 0);
        fault(8, "[-0]", TypedText.RANGE, 2);
        fault(8, "[{'A':1},0,1]", TypedText.RANGE, 11);
        fine(8, "[{'A':1},0,{'A':2},1]");
    }

    private static void rangeOfTexts() {
        Check.sentence("the character of a text that is too much (of \\ and another the latter)");
        fine(TEXT, "'AA'");
        fault(TEXT, "'AAA'", TypedText.RANGE, 3);
        fault(TEXT, "'AAA", TypedText.RANGE, 3);
        fault(TEXT, "'AAAAAA'", TypedText.RANGE, 3);
        fine(TEXT, "'A\\\\'");
        fault(TEXT, "'A\\\\A'", TypedText.RANGE, 4);
        fault(TEXT, "'AA\\\\'", TypedText.RANGE, 4);
        fault(TEXT, "'AA\\''", TypedText.RANGE, 4);
        fault(TEXT, "'\\\\\\'\\\\'", TypedText.RANGE, 6);
        // The \ alone is no character that is too much.
        fault(TEXT, "'AA\\", TypedText.SYNTAX, 4);
        fault(TEXT, "'AA\\A", TypedText.SYNTAX, 4);
        fault(RECORD, "{'B':'AAA'}", TypedText.RANGE, 8);
        // Spaces in a text are characters; those around it are not.
        fine(TEXT, " '  ' ");
        fault(TEXT, "'   '", TypedText.RANGE, 3);
        // The name of a member is no text.
        fault(RECORD, "{'AAAAA':1}", TypedText.NAME, 7);
    }

    private static void rangeOfElements() {
        Check.sentence("the first one of an element that is too much");
        fine(LIST, "[1,2,3]");
        fault(LIST, "[1,2,3,4]", TypedText.RANGE, 7);
        fault(LIST, "[1,2,3,  4]", TypedText.RANGE, 9);
        fault(LIST, "[1,2,3,45]", TypedText.RANGE, 7);
        fault(LIST, "[1,2,3,456]", TypedText.RANGE, 7);
        fault(LIST, "[1,2,3,4", TypedText.RANGE, 7);
        fault(LIST, "[1,2,3,", TypedText.SYNTAX, 7);
        fault(LIST, "[1,2,3,]", TypedText.SYNTAX, 7);
        TypedText x = types();
        x.list(9, FLAG, 0, 0);
        Check.fault(x, 9, "[]", TypedText.OK, -1);
        Check.fault(x, 9, "[t]", TypedText.RANGE, 1);
        x.list(10, RECORD, 0, 1);
        Check.fault(x, 10, "[{'A':1}]", TypedText.OK, -1);
        Check.fault(x, 10, "[{'A':1}, {'A':1}]", TypedText.RANGE, 10);
        x.list(10, TEXT, 0, 1);
        Check.fault(x, 10, "['', 'AAA']", TypedText.RANGE, 5);
    }

    private static void rangeOfTooFew() {
        Check.sentence("the ] of a list that has too few");
        fine(LIST, "[1]");
        fault(LIST, "[]", TypedText.RANGE, 1);
        fault(LIST, "[   ]", TypedText.RANGE, 4);
        fault(LIST, "[", TypedText.SYNTAX, 1);
        TypedText x = types();
        x.list(LIST, FLAG, 3, 3);
        Check.fault(x, LIST, "[t,t,t]", TypedText.OK, -1);
        Check.fault(x, LIST, "[t,t ]", TypedText.RANGE, 5);
        Check.fault(x, LIST, "[t,t", TypedText.SYNTAX, 4);
        Check.fault(x, LIST, "[t,t}", TypedText.SYNTAX, 4);
        Check.fault(x, LIST, "[t,t,t,t]", TypedText.RANGE, 7);
        // Elements of an element are none of the list's.
        x.list(9, LIST, 2, 2);
        Check.fault(x, 9, "[[t,t,t]]", TypedText.RANGE, 8);
        Check.fault(x, 9, "[[t,t,t],[t,t,t]]", TypedText.OK, -1);
    }

    // ---- NAME and MISSING ----

    private static TypedText named(int name) {
        TypedText x = new TypedText();
        x.simple(0, 2, 0, 0, 0);
        x.members(1, -1);
        x.field(1, name, 0, false);
        return x;
    }

    private static void nameLetters() {
        Check.sentence("NAME: the \" that ends a name that is not one letter 21..26");
        for (int c = 0; c < 32; c++) {
            if (c != 16 && c != 30) {
                boolean letter = c >= 21 && c <= 26;
                String text = "{'" + Check.SIGNS.charAt(c) + "':t}";
                // Each letter is a field of its own record; the others are of none.
                TypedText x = named(letter ? c - 21 : 0);
                Check.fault(x, 1, text, letter ? TypedText.OK : TypedText.NAME, letter ? -1 : 3);
                Check.fault(named(letter ? c - 21 : 5), 1, text, letter ? TypedText.OK : TypedText.NAME, letter ? -1 : 3);
            }
        }
        for (int name = 0; name < 6; name++) {
            char letter = "ABCDEF".charAt(name);
            Check.fault(named(name), 1, "{'':t}", TypedText.NAME, 2);
            Check.fault(named(name), 1, "{'" + letter + letter + "':t}", TypedText.NAME, 4);
            Check.fault(named(name), 1, "{'" + letter + " ':t}", TypedText.NAME, 4);
            Check.fault(named(name), 1, "{' " + letter + "':t}", TypedText.NAME, 4);
            Check.fault(named(name), 1, "{'\\\\" + letter + "':t}", TypedText.NAME, 5);
            Check.fault(named(name), 1, "{'\\\\':t}", TypedText.NAME, 4);
            Check.fault(named(name), 1, "{'\\'':t}", TypedText.NAME, 4);
            Check.fault(named(name), 1, "{'\\" + letter + "':t}", TypedText.SYNTAX, 3);
            Check.fault(named(name), 1, "{ '" + letter + "' :t}", TypedText.OK, -1);
            Check.fault(named(name), 1, "{'" + ("" + letter).repeat(90) + "':t}", TypedText.NAME, 92);
            Check.fault(named(name), 1, "{'" + ("" + letter).repeat(94), TypedText.SYNTAX, 96);
            Check.fault(named(name), 1, "{'" + ("" + letter).repeat(93) + "'", TypedText.NAME, 95);
        }
    }

    private static void nameOfRecord() {
        Check.sentence("not one of the record");
        for (int field = 0; field < 6; field++) {
            for (int name = 0; name < 6; name++) {
                String text = "{'" + "ABCDEF".charAt(name) + "':t}";
                Check.fault(named(field), 1, text, name == field ? TypedText.OK : TypedText.NAME, name == field ? -1 : 3);
            }
        }
        // A record without fields has none.
        TypedText x = named(0);
        x.members(1, -1);
        Check.fault(x, 1, "{'A':t}", TypedText.NAME, 3);
        Check.fault(x, 1, "{}", TypedText.OK, -1);
        // The name of the record around it is none of its own.
        x.members(2, -1);
        x.field(2, 0, 1, false);
        Check.fault(x, 2, "{'A':{'A':t}}", TypedText.NAME, 8);
    }

    private static void nameThere() {
        Check.sentence("or there already");
        fine(RECORD, "{'A':1,'B':''}");
        fault(RECORD, "{'A':1,'A':1}", TypedText.NAME, 9);
        fault(RECORD, "{'A':1,'B':'','A':1}", TypedText.NAME, 16);
        fault(RECORD, "{'A':1,'B':'','B':''}", TypedText.NAME, 16);
        // There already in another record, or in one that is closed, does not count.
        TypedText x = named(0);
        x.members(2, -1);
        x.field(2, 0, 1, false);
        x.field(2, 1, 1, false);
        Check.fault(x, 2, "{'A':{'A':t},'B':{'A':t}}", TypedText.OK, -1);
        Check.fault(x, 2, "{'A':{'A':t},'A':{}}", TypedText.NAME, 15);
        Check.fault(x, 2, "{'A':{'A':t,'A':t}}", TypedText.NAME, 14);
    }

    private static void nameOfChoice() {
        Check.sentence("in a choice, of the first member, not that of the choice; the } of a choice without members");
        fine(CHOICE, "{'D':1,'A':1}");
        fault(CHOICE, "{}", TypedText.NAME, 1);
        fault(CHOICE, "{  }", TypedText.NAME, 3);
        fault(CHOICE, "{", TypedText.SYNTAX, 1);
        fault(CHOICE, "{'A':1,'D':1}", TypedText.NAME, 3);
        fault(CHOICE, "{ 'A'", TypedText.NAME, 4);
        fault(CHOICE, "{'':1}", TypedText.NAME, 2);
        fault(CHOICE, "{'DD':1}", TypedText.NAME, 4);
        fault(CHOICE, "{'D':1,'D':1}", TypedText.NAME, 9);
        fault(CHOICE, "{'D':1,'C':1}", TypedText.NAME, 9);
        fault(CHOICE, "{'D':1,'A':1,'A':1}", TypedText.NAME, 15);
        fault(CHOICE, "{'D':1,'':1}", TypedText.NAME, 8);
    }

    private static void missing() {
        Check.sentence("MISSING: the } of a record in which a field that is needed is not there.");
        fine(RECORD, "{'A':1}");
        fault(RECORD, "{}", TypedText.MISSING, 1);
        fault(RECORD, "{   }", TypedText.MISSING, 4);
        fault(RECORD, "{'B':'' }", TypedText.MISSING, 8);
        fault(RECORD, "{'B':''", TypedText.SYNTAX, 7);
        fault(CHOICE, "{'D':1}", TypedText.MISSING, 6);
        fault(CHOICE, "{'D':1,'B':''}", TypedText.MISSING, 13);
        fault(POSSIBLE, "{}", TypedText.MISSING, 1);
        fine(POSSIBLE, "n");
        fault(SHARED, "{}", TypedText.MISSING, 1);
        fault(8, "[{'A':1},{}]", TypedText.MISSING, 10);
        // In the inner record: that in the outer one does not count.
        TypedText x = types();
        x.field(RECORD, 2, POSSIBLE, false);
        Check.fault(x, RECORD, "{'A':1,'C':{}}", TypedText.MISSING, 12);
        Check.fault(x, RECORD, "{'C':{'A':1}}", TypedText.MISSING, 12);
        Check.fault(x, RECORD, "{'C':{'A':1},'A':1}", TypedText.OK, -1);
        // A field of type POSSIBLE is there when it is n, and missing when it is needed and not there.
        x = types();
        x.members(9, -1);
        x.field(9, 0, POSSIBLE, true);
        Check.fault(x, 9, "{'A':n}", TypedText.OK, -1);
        Check.fault(x, 9, "{}", TypedText.MISSING, 1);
    }

    // ---- several at one place, in their order ----

    private static void syntaxFirst() {
        Check.sentence("of several there the first in this order: SYNTAX");
        for (char wrong : "}:,.eABCDEF\\+".toCharArray()) {
            for (int slot = 0; slot < 12; slot++) {
                fault(slot, "" + wrong, TypedText.SYNTAX, 0);
            }
            fault(LIST, "[1,2,3," + wrong, TypedText.SYNTAX, 7);
            fault(CHOICE, "{'D':" + wrong, TypedText.SYNTAX, 5);
            TypedText x = wide();
            String full = flags(37).substring(0, 77);
            Check.fault(x, 1, full + "," + wrong, TypedText.SYNTAX, full.length() + 1);
        }
    }

    /** Lists in one another, slot k of slot k + 1; the one in slot 5 may have so many elements. */
    private static TypedText chain(int most) {
        TypedText x = new TypedText();
        for (int slot = 0; slot < 5; slot++) {
            x.list(slot, slot + 1, 0, 20);
        }
        x.list(5, 6, 0, most);
        return x;
    }

    private static void undefinedFirst() {
        Check.sentence("of several there the first in this order: .. UNDEFINED, TYPE .. DEEP .. MANY .. RANGE");
        for (int most = 0; most < 2; most++) {
            for (char begin : "-0\"tf[{n".toCharArray()) {
                Check.fault(chain(most), 0, "[[[[[[" + begin, TypedText.UNDEFINED, 6);
                TypedText x = chain(most);
                x.wrap(6, 0, 6);
                Check.fault(x, 0, "[[[[[[" + begin, TypedText.UNDEFINED, 6);
                x.wrap(6, 1, 0);
                Check.fault(x, 0, "[[[[[[" + begin, TypedText.UNDEFINED, 6);
            }
        }
        // Slot 4 has no type.
        String before = "{'A':" + flags(36) + ",'B':";
        for (char begin : "-0\"tf[{n".toCharArray()) {
            Check.fault(wide(), 0, before + begin, TypedText.UNDEFINED, before.length());
        }
    }

    private static void typeBeforeOthers() {
        Check.sentence("of several there the first in this order: .. TYPE .. DEEP .. MANY .. RANGE");
        for (int most = 0; most < 2; most++) {
            TypedText x = chain(most);
            x.simple(6, 2, 0, 0, 0);
            Check.fault(x, 0, "[[[[[[[", TypedText.TYPE, 6);
            Check.fault(x, 0, "[[[[[[{", TypedText.TYPE, 6);
            Check.fault(x, 0, "[[[[[[n", TypedText.TYPE, 6);
            Check.fault(x, 0, "[[[[[[t", most == 0 ? TypedText.RANGE : TypedText.SYNTAX, most == 0 ? 6 : 7);
        }
        TypedText x = wide();
        x.simple(4, 2, 0, 0, 0);
        String before = "{'A':" + flags(36) + ",'B':";
        Check.fault(x, 0, before + "n", TypedText.TYPE, before.length());
        Check.fault(x, 0, before + "t", TypedText.MANY, before.length());
    }

    private static void deepBeforeOthers() {
        Check.sentence("of several there the first in this order: .. DEEP .. MANY .. RANGE");
        for (int most = 0; most < 2; most++) {
            TypedText x = chain(most);
            x.list(6, 6, 0, 20);
            Check.fault(x, 0, "[[[[[[[", TypedText.DEEP, 6);
            x.members(6, -1);
            Check.fault(x, 0, "[[[[[[{", TypedText.DEEP, 6);
        }
        // Slot 0: a list of nothings and of lists like it; 6 lists and 34 nothings are 40.
        TypedText x = new TypedText();
        x.list(0, 1, 0, 17);
        x.wrap(1, 0, 0);
        String inner = "[" + "n,".repeat(15) + "n,[n,[[[[n" + ",n".repeat(16);
        Check.fault(x, 0, inner + "]]]]]]", TypedText.OK, -1);
        Check.same("nodes", 40, x.nodes());
        Check.fault(x, 0, inner + ",[", TypedText.DEEP, inner.length() + 1);
        Check.fault(x, 0, inner + ",n", TypedText.MANY, inner.length() + 1);
        x = new TypedText();
        x.list(0, 1, 0, 17);
        x.wrap(1, 0, 0);
        Check.fault(x, 0, inner + ",t", TypedText.TYPE, inner.length() + 1);
        Check.fault(x, 0, inner + ",]", TypedText.SYNTAX, inner.length() + 1);
        // One nothing less before it: only too many elements and too deep.
        String less = "[" + "n,".repeat(14) + "n,[n,[[[[n" + ",n".repeat(16);
        Check.fault(x, 0, less + ",n", TypedText.RANGE, less.length() + 1);
        Check.fault(x, 0, less + ",[", TypedText.DEEP, less.length() + 1);
    }

    private static void manyBeforeRange() {
        Check.sentence("of several there the first in this order: .. MANY .. RANGE");
        // 1 + (1 + 18) + (1 + 19) are 40; the list of 19 takes 19 or 20.
        String before = "[[t" + ",t".repeat(17) + "],[t" + ",t".repeat(18);
        for (int most = 19; most <= 20; most++) {
            TypedText x = wide();
            x.list(2, 3, 0, most);
            Check.fault(x, 1, before + "]]", TypedText.OK, -1);
            Check.same("nodes", 40, x.nodes());
            Check.fault(x, 1, before + ",t]]", TypedText.MANY, before.length() + 1);
        }
        // One flag less before it: only too many elements.
        String less = "[[t" + ",t".repeat(16) + "],[t" + ",t".repeat(18);
        TypedText x = wide();
        x.list(2, 3, 0, 19);
        Check.fault(x, 1, less + ",t]]", TypedText.RANGE, less.length() + 1);
        x.list(2, 3, 0, 20);
        Check.fault(x, 1, less + ",t]]", TypedText.OK, -1);
    }
}
