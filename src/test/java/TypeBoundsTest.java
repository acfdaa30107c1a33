import java.math.BigDecimal;

/**
 * The types and the nodes of the document's terms, sentence by sentence: each boundary case at the last
 * value that is taken and at the first one that is not.
 */
public final class TypeBoundsTest {
    private static final int LEAST = Integer.MIN_VALUE;
    private static final int MOST = Integer.MAX_VALUE;

    public static void main(String[] args) {
        wholeUnits();
        leastToMost();
        farOutside();
        zeros();
        textsLength();
        flags();
        listsLength();
        recordsFields();
        choicesFirstMember();
        choicesTags();
        choicesName();
        possible();
        shared();
        mustBeDefined();
        usedOnly();
        nodesOrder();
        numbersValue();
        textsValue();
        listsValue();
        recordsValue();
        recordsComplete();
        choicesValue();
        referencesValue();
        parentsAndNames();
        Check.end();
    }

    private static void fine(TypedText x, int slot, String text) {
        Check.fault(x, slot, text, TypedText.OK, -1);
    }

    private static void range(TypedText x, int slot, String text, int place) {
        Check.fault(x, slot, text, TypedText.RANGE, place);
    }

    // ---- numbers ----

    private static TypedText number(int decimals, int least, int most) {
        TypedText x = new TypedText();
        Check.same("simple", true, x.simple(0, 0, decimals, least, most));
        return x;
    }

    private static String plain(long units, int decimals) {
        return BigDecimal.valueOf(units, decimals).toPlainString();
    }

    private static void wholeUnits() {
        Check.sentence("NUMBER with D decimals (0..4) ..: numbers that are a whole number of units 10^-D");
        for (int decimals = 0; decimals <= 4; decimals++) {
            String zeros = "0".repeat(decimals);
            for (String sign : new String[] {"", "-"}) {
                TypedText x = number(decimals, LEAST, MOST);
                String one = plain(1, decimals);
                String units = "0/" + sign + "1/-1/-1";
                Check.nodes(x, 0, sign + one, units);
                Check.nodes(x, 0, sign + "1e-" + decimals, units);
                Check.nodes(x, 0, sign + "10e-" + (decimals + 1), units);
                // A tenth of a unit is none, alone or behind whole ones, also far behind.
                String tenth = sign + plain(1, decimals + 1);
                range(x, 0, tenth, tenth.length() - 1);
                String more = sign + plain(11, decimals + 1);
                range(x, 0, more, more.length() - 1);
                range(x, 0, sign + "1e-" + (decimals + 1), sign.length() + 3);
                String far = sign + "1." + zeros + "0".repeat(60) + "1";
                range(x, 0, far, far.length() - 1);
                Check.fault(x, 0, sign + "1." + zeros + "0".repeat(60), TypedText.OK, -1);
            }
        }
    }

    private static void leastToMost() {
        Check.sentence("from least to most");
        int[][] bounds = {{0, 0}, {-1, 1}, {1, 1}, {-1, -1}, {5, 9}, {-9, -5}, {0, 9}, {99, 100}, {-100, -99},
            {LEAST, MOST}, {LEAST, LEAST}, {MOST, MOST}, {LEAST, LEAST + 1}, {MOST - 1, MOST}, {0, MOST}, {LEAST, 0},
            {999999999, 1000000000}, {-1000000000, -999999999}};
        for (int decimals = 0; decimals <= 4; decimals++) {
            for (int[] pair : bounds) {
                TypedText x = number(decimals, pair[0], pair[1]);
                Check.nodes(x, 0, plain(pair[0], decimals), "0/" + pair[0] + "/-1/-1");
                Check.nodes(x, 0, plain(pair[1], decimals), "0/" + pair[1] + "/-1/-1");
                Check.nodes(x, 0, pair[0] + "e-" + decimals, "0/" + pair[0] + "/-1/-1");
                Check.nodes(x, 0, pair[1] + "e-" + decimals, "0/" + pair[1] + "/-1/-1");
                String below = plain(pair[0] - 1L, decimals);
                range(x, 0, below, below.length() - 1);
                String above = plain(pair[1] + 1L, decimals);
                range(x, 0, above, above.length() - 1);
                below = (pair[0] - 1L) + "e-" + decimals;
                range(x, 0, below + " ", below.length() - 1);
                above = (pair[1] + 1L) + "e-" + decimals;
                range(x, 0, above + " ", above.length() - 1);
            }
        }
    }

    private static void farOutside() {
        Check.sentence("numbers that are a whole number of units 10^-D from least to most");
        // Each would be a small number if it wrapped around, or if a digit or a power were dropped.
        String[] far = {"4294967296", "4294967297", "-4294967296", "8589934592", "9999999999", "10000000000",
            "1099511627776", "1099511627777", "9223372036854775807", "9223372036854775808", "18446744073709551615",
            "18446744073709551616", "18446744073709551617", "340282366920938463463374607431768211456",
            "1" + "0".repeat(94), "1e10", "1e19", "1e20", "1e32", "1e64", "1e99", "1e100", "1e4294967296",
            "1e18446744073709551616", "1e" + "9".repeat(93), "1e-1" + "0".repeat(91), "1e-" + "9".repeat(90),
            "0." + "0".repeat(80) + "1", "5e-5", "1e-99", "1e-4294967296", "1e-18446744073709551616",
            "1" + "0".repeat(40) + "e-20", "0." + "0".repeat(20) + "1e60"};
        for (int decimals = 0; decimals <= 4; decimals++) {
            for (String text : far) {
                TypedText x = number(decimals, LEAST, MOST);
                range(x, 0, text, text.length() - 1);
            }
        }
    }

    private static void zeros() {
        Check.sentence("numbers that are a whole number of units 10^-D from least to most");
        String[] none = {"0", "-0", "0.0", "-0.0000", "0e0", "0e9", "-0e-9", "0.00e+99", "0e" + "9".repeat(90),
            "0e-" + "9".repeat(90), "0." + "0".repeat(94)};
        for (int decimals = 0; decimals <= 4; decimals++) {
            for (String text : none) {
                Check.nodes(number(decimals, 0, 0), 0, text, "0/0/-1/-1");
                range(number(decimals, 1, 9), 0, text, text.length() - 1);
                range(number(decimals, -9, -1), 0, text, text.length() - 1);
            }
        }
    }

    // ---- texts, flags and lists ----

    private static void textsLength() {
        Check.sentence("TEXT of at most so many characters.");
        for (int most = 0; most <= 40; most++) {
            TypedText x = new TypedText();
            x.simple(0, 1, most, 0, 0);
            fine(x, 0, "'" + "A".repeat(most) + "'");
            range(x, 0, "'" + "A".repeat(most + 1) + "'", most + 1);
            // \ and another are one character.
            x = new TypedText();
            x.simple(0, 1, most, 0, 0);
            String pairs = "\\\\".repeat(most);
            fine(x, 0, "'" + pairs + "'");
            range(x, 0, "'" + pairs + "\\\\'", 2 * most + 2);
            range(x, 0, "'" + pairs + "A'", 2 * most + 1);
        }
    }

    private static void flags() {
        Check.sentence("FLAG: t or f.");
        TypedText x = new TypedText();
        x.simple(0, 2, 0, 0, 0);
        fine(x, 0, "t");
        fine(x, 0, "f");
        for (String other : new String[] {"n", "0", "1", "-1", "'t'", "[t]", "{}"}) {
            Check.fault(x, 0, other, TypedText.TYPE, 0);
        }
    }

    private static String flagsOf(int count) {
        return count == 0 ? "[]" : "[t" + ",t".repeat(count - 1) + "]";
    }

    private static void listsLength() {
        Check.sentence("LIST of a type, with least to most elements.");
        for (int least = 0; least <= 20; least++) {
            for (int most = least; most <= 20; most++) {
                TypedText x = new TypedText();
                x.simple(0, 2, 0, 0, 0);
                Check.same("list", true, x.list(1, 0, least, most));
                fine(x, 1, flagsOf(least));
                fine(x, 1, flagsOf(most));
                if (least > 0) {
                    String few = flagsOf(least - 1);
                    range(x, 1, few, few.length() - 1);
                }
                range(x, 1, flagsOf(most + 1), 2 * most + 1);
            }
        }
    }

    // ---- records ----

    private static void recordsFields() {
        Check.sentence("RECORD with up to 4 fields, each a name, a type and needed or not: { } with these.");
        // Every choice of which of four fields are needed, with every choice of which are there.
        for (int needed = 0; needed < 16; needed++) {
            for (int there = 0; there < 16; there++) {
                TypedText x = new TypedText();
                x.simple(0, 2, 0, 0, 0);
                x.members(1, -1);
                StringBuilder text = new StringBuilder();
                for (int name = 0; name < 4; name++) {
                    Check.same("field", true, x.field(1, name, 0, (needed >> name & 1) == 1));
                    if ((there >> name & 1) == 1) {
                        text.append(text.length() == 0 ? "{" : ",").append("'").append("ABCD".charAt(name)).append("':t");
                    }
                }
                text.append(text.length() == 0 ? "{}" : "}");
                boolean whole = (needed & ~there) == 0;
                Check.fault(x, 1, text.toString(), whole ? TypedText.OK : TypedText.MISSING, whole ? -1 : text.length() - 1);
            }
        }
    }

    private static TypedText choice(int name) {
        TypedText x = new TypedText();
        x.simple(0, 2, 0, 0, 0);
        x.members(1, -1);
        x.field(1, 0, 0, false);
        x.field(1, 1, 0, false);
        x.members(2, name);
        x.tag(2, 0, 1);
        return x;
    }

    private static void choicesFirstMember() {
        Check.sentence("CHOICE by a name ..: { } whose first member has that name");
        for (int name = 0; name < 6; name++) {
            for (int first = 0; first < 6; first++) {
                String text = "{'" + "ABCDEF".charAt(first) + "':0}";
                Check.fault(choice(name), 2, text, first == name ? TypedText.OK : TypedText.NAME, first == name ? -1 : 3);
            }
        }
        Check.fault(choice(5), 2, "{}", TypedText.NAME, 1);
        Check.fault(choice(5), 2, "{'A':t,'F':0}", TypedText.NAME, 3);
        fine(choice(5), 2, "{'F':0,'A':t}");
        fine(choice(5), 2, "{'F':0,'B':t,'A':t}");
    }

    private static void choicesTags() {
        Check.sentence("and as its value the number of a tag that has a RECORD");
        for (int tag = 0; tag < 6; tag++) {
            TypedText x = choice(5);
            x.members(2, 5);
            Check.same("tag", true, x.tag(2, tag, 1));
            for (int value = 0; value < 8; value++) {
                String text = "{'F':" + value + "}";
                Check.fault(x, 2, text, value == tag ? TypedText.OK : TypedText.RANGE, value == tag ? -1 : 5);
            }
        }
        for (int tag = 0; tag < 6; tag++) {
            TypedText x = choice(5);
            x.tag(2, tag, 1);
            fine(x, 2, "{'F':" + tag + ".0}");
            fine(x, 2, "{'F':" + tag + "e0}");
            fine(x, 2, "{'F':0." + tag + "e1}");
            range(x, 2, "{'F':" + tag + ".5}", 7);
            range(x, 2, "{'F':" + (tag + 4294967296L) + "}", 14);
            range(x, 2, "{'F':-" + (tag + 1) + "}", 6);
        }
        fine(choice(5), 2, "{'F':-0}");
        // What is no record gives no tag: each sort of type, and none.
        TypedText x = choice(5);
        x.list(3, 0, 0, 1);
        x.wrap(4, 0, 1);
        x.wrap(5, 1, 1);
        x.simple(6, 0, 0, 0, 9);
        x.simple(7, 1, 9, 0, 0);
        for (int of : new int[] {0, 2, 3, 4, 5, 6, 7, 11}) {
            Check.same("tag of slot " + of, true, x.tag(2, 5, of));
            range(x, 2, "{'F':5}", 5);
        }
        x.tag(2, 5, 1);
        fine(x, 2, "{'F':5}");
    }

    private static void choicesName() {
        Check.sentence("the others are the fields of that record (one of the choice's name counts as there already)");
        // By A: the record's own A is there already, so it may not come, and is not missing.
        TypedText x = choice(0);
        Check.fault(x, 2, "{'A':0,'A':t}", TypedText.NAME, 9);
        Check.prints(x, 2, "{'A':0,'B':t}", "{'A':0,'B':t}");
        x.members(1, -1);
        x.field(1, 0, 0, true);
        fine(x, 2, "{'A':0}");
        Check.nodes(x, 2, "{'A':0}", "4/1/-1/-1");
        Check.fault(x, 1, "{}", TypedText.MISSING, 1);
        x.field(1, 1, 0, true);
        Check.fault(x, 2, "{'A':0}", TypedText.MISSING, 6);
        fine(x, 2, "{'A':0,'B':t}");
        // By F: the record has none, and gets none.
        x = choice(5);
        Check.fault(x, 2, "{'F':0,'F':0}", TypedText.NAME, 9);
        Check.fault(x, 2, "{'F':0,'F':t}", TypedText.NAME, 9);
        Check.fault(x, 2, "{'F':0,'A':t,'A':t}", TypedText.NAME, 15);
        Check.fault(x, 2, "{'F':0,'C':t}", TypedText.NAME, 9);
    }

    // ---- wrapped ones ----

    /** 0 number, 1 text, 2 flag, 3 list, 4 record, 5 choice, 6 possible, 7 shared, 8 what is wrapped, 11 none. */
    private static TypedText each() {
        TypedText x = new TypedText();
        x.simple(0, 0, 0, 0, 9);
        x.simple(1, 1, 9, 0, 0);
        x.simple(2, 2, 0, 0, 0);
        x.list(3, 2, 0, 9);
        x.members(4, -1);
        x.members(5, 0);
        x.tag(5, 0, 4);
        x.wrap(6, 0, 2);
        x.wrap(7, 1, 4);
        return x;
    }

    private static final String[] BEGUN = {"1", "''", "t", "[]", "{}", "{'A':0}", "n", "-1"};

    private static void possible() {
        Check.sentence("WRAPPED, POSSIBLE: n, or what its type allows");
        for (int of = 0; of < 6; of++) {
            TypedText x = each();
            x.wrap(8, 0, of);
            Check.nodes(x, 8, "n", "5/0/-1/-1");
            Check.fault(x, of, "n", TypedText.TYPE, 0);
            for (String text : BEGUN) {
                if (!text.equals("n")) {
                    TypedText bare = each();
                    Check.write(bare, text);
                    int code = bare.bind(of);
                    Check.fault(x, 8, text, code, bare.place());
                    Check.same("nodes of " + text, Check.nodesOf(bare), Check.nodesOf(x));
                }
            }
        }
    }

    private static void shared() {
        Check.sentence("SHARED, of a record: that record, or the number k of a REFERENCE to an earlier one.");
        TypedText x = each();
        x.list(8, 7, 0, 20);
        Check.nodes(x, 7, "{}", "4/0/-1/-1");
        Check.fault(x, 7, "n", TypedText.TYPE, 0);
        range(x, 7, "0", 0);
        for (int count = 0; count < 5; count++) {
            StringBuilder before = new StringBuilder("[");
            for (int k = 0; k < count; k++) {
                before.append("{},");
            }
            if (count > 0) {
                fine(each8(), 8, before + "0]");
                fine(each8(), 8, before + "" + (count - 1) + "]");
                fine(each8(), 8, before + "" + (count - 1) + ".0]");
            }
            range(each8(), 8, before + "" + count + "]", before.length());
            range(each8(), 8, before + "-1]", before.length() + 1);
            range(each8(), 8, before + "0.5]", before.length() + 2);
            range(each8(), 8, before + "4294967296]", before.length() + 9);
        }
        // Not to a later one.
        range(each8(), 8, "[0,{}]", 1);
    }

    private static TypedText each8() {
        TypedText x = each();
        x.list(8, 7, 0, 20);
        return x;
    }

    private static void mustBeDefined() {
        Check.sentence("The type of a wrapped one, if POSSIBLE, must be none of these, if SHARED a record; a slot must have a type");
        for (int of = 0; of < 12; of++) {
            boolean possible = of <= 5;
            boolean shared = of == 4;
            for (String text : BEGUN) {
                TypedText x = each();
                x.wrap(8, 0, of);
                Check.write(x, " " + text);
                Check.same("possible of " + of + " is undefined at " + text, !possible, x.bind(8) == TypedText.UNDEFINED);
                Check.same("place", possible, x.place() != 1 || x.bind(8) != TypedText.UNDEFINED);
                x = each();
                x.wrap(8, 1, of);
                Check.write(x, " " + text);
                Check.same("shared of " + of + " is undefined at " + text, !shared, x.bind(8) == TypedText.UNDEFINED);
                Check.same("place", shared, x.place() != 1 || x.bind(8) != TypedText.UNDEFINED);
            }
        }
        // Wrapped twice: only the type that it is of counts, not what that one is of.
        TypedText x = each();
        x.wrap(8, 0, 6);
        Check.fault(x, 8, "n", TypedText.UNDEFINED, 0);
        x.wrap(8, 0, 7);
        Check.fault(x, 8, "n", TypedText.UNDEFINED, 0);
        x.wrap(8, 1, 6);
        Check.fault(x, 8, "{}", TypedText.UNDEFINED, 0);
        x.wrap(8, 1, 7);
        Check.fault(x, 8, "{}", TypedText.UNDEFINED, 0);
        x.wrap(8, 1, 8);
        Check.fault(x, 8, "{}", TypedText.UNDEFINED, 0);
    }

    private static void usedOnly() {
        Check.sentence("what is used and is not so is UNDEFINED");
        TypedText x = each();
        // A list of what has no type: empty it uses nothing.
        x.list(8, 11, 0, 9);
        fine(x, 8, "[]");
        Check.fault(x, 8, "[t]", TypedText.UNDEFINED, 1);
        // A field without a type, not there.
        x.members(8, -1);
        x.field(8, 0, 11, false);
        fine(x, 8, "{}");
        Check.fault(x, 8, "{'A':t}", TypedText.UNDEFINED, 5);
        // A choice's other tag without a record, not used.
        x.tag(5, 1, 11);
        fine(x, 5, "{'A':0}");
        range(x, 5, "{'A':1}", 5);
    }

    // ---- nodes ----

    private static void nodesOrder() {
        Check.sentence("NODES: each value bound to a type gives one, in the order of their beginnings (tags of choices give none)");
        TypedText x = each();
        x.members(4, -1);
        x.field(4, 1, 3, false);
        x.field(4, 2, 6, false);
        x.field(4, 3, 0, false);
        x.field(4, 4, 1, false);
        Check.nodes(x, 4, "{'E':'','D':7,'C':n,'B':[t,f]}",
                "4/0/-1/-1 1/0/0/4 0/7/0/3 5/0/0/2 3/2/0/1 2/1/4/0 2/0/4/1");
        Check.nodes(x, 4, "{'B':[t,f],'C':n,'D':7,'E':''}",
                "4/0/-1/-1 3/2/0/1 2/1/1/0 2/0/1/1 5/0/0/2 0/7/0/3 1/0/0/4");
        Check.nodes(x, 5, "{'A':0,'C':t}", "4/4/-1/-1 2/1/0/2");
        Check.nodes(x, 5, "{'A':0}", "4/4/-1/-1");
    }

    private static void numbersValue() {
        Check.sentence("of a number the units");
        for (int decimals = 0; decimals <= 4; decimals++) {
            for (int units : new int[] {0, 1, -1, 9, 10, -10, 99999, 100000, LEAST, LEAST + 1, MOST, MOST - 1}) {
                TypedText x = number(decimals, LEAST, MOST);
                Check.nodes(x, 0, plain(units, decimals), "0/" + units + "/-1/-1");
            }
        }
    }

    private static void textsValue() {
        Check.sentence("of a text h = 0 and for each character h = 32 h + it (wrapping)");
        // Six characters hold 30 bits; the seventh wraps, and the eighth from the end is gone.
        for (int count = 0; count <= 40; count++) {
            for (char sign : "01F+".toCharArray()) {
                long h = 0;
                for (int k = 0; k < count; k++) {
                    h = (32 * h + Check.SIGNS.indexOf(sign)) & 0xFFFFFFFFL;
                }
                TypedText x = each();
                x.simple(1, 1, 40, 0, 0);
                Check.nodes(x, 1, "'" + ("" + sign).repeat(count) + "'", "1/" + (int) h + "/-1/-1");
            }
        }
        TypedText x = each();
        x.simple(1, 1, 40, 0, 0);
        Check.nodes(x, 1, "'1+++++'", "1/" + ((1 << 26) - 1) + "/-1/-1");
        Check.nodes(x, 1, "'1++++++'", "1/" + (int) ((1L << 31) - 1) + "/-1/-1");
        Check.nodes(x, 1, "'2000000'", "1/" + Integer.MIN_VALUE + "/-1/-1");
        Check.nodes(x, 1, "'3++++++'", "1/-1/-1/-1");
        Check.nodes(x, 1, "'4000000'", "1/0/-1/-1");
        Check.nodes(x, 1, "'50000001'", "1/1/-1/-1");
        Check.nodes(x, 1, "'\\\"\\\\'", "1/" + (16 * 32 + 30) + "/-1/-1");
    }

    private static void listsValue() {
        Check.sentence("of a flag 1 or 0, of a list how many elements");
        for (int count = 0; count <= 20; count++) {
            TypedText x = each();
            x.list(3, 2, 0, 20);
            fine(x, 3, flagsOf(count));
            Check.same("elements", count, x.node(0, 1));
            Check.same("nodes", count + 1, x.nodes());
        }
        TypedText x = each();
        x.list(8, 3, 0, 20);
        // Elements of elements do not count.
        Check.nodes(x, 8, "[[t,t],[]]", "3/2/-1/-1 3/2/0/0 2/1/1/0 2/1/1/1 3/0/0/1");
    }

    private static void recordsValue() {
        Check.sentence("of a record how many complete ones of its slot there are at its beginning");
        TypedText x = each8();
        x.members(4, -1);
        x.field(4, 0, 7, false);
        x.field(4, 1, 7, false);
        Check.nodes(x, 8, "[{},{},{}]", "3/3/-1/-1 4/0/0/0 4/1/0/1 4/2/0/2");
        // The outer ones are complete behind the inner ones.
        Check.nodes(x, 8, "[{'A':{'A':{}}},{}]", "3/2/-1/-1 4/0/0/0 4/0/1/0 4/0/2/0 4/3/0/1");
        Check.nodes(x, 8, "[{'A':{},'B':{}}]", "3/1/-1/-1 4/0/0/0 4/0/1/0 4/1/1/1");
        // Each slot counts for itself, and each bind anew.
        x.members(9, -1);
        x.field(9, 0, 4, false);
        x.field(9, 1, 10, false);
        x.members(10, -1);
        Check.nodes(x, 9, "{'A':{},'B':{}}", "4/0/-1/-1 4/0/0/0 4/0/0/1");
        for (int slot = 0; slot < 12; slot++) {
            x = new TypedText();
            x.members(slot, -1);
            x.list(slot == 0 ? 1 : 0, slot, 0, 9);
            Check.nodes(x, slot == 0 ? 1 : 0, "[{},{}]", "3/2/-1/-1 4/0/0/0 4/1/0/1");
            Check.same("bind again", TypedText.OK, x.bind(slot == 0 ? 1 : 0));
            Check.same("nodes again", "3/2/-1/-1 4/0/0/0 4/1/0/1", Check.nodesOf(x));
            Check.nodes(x, slot, "{}", "4/0/-1/-1");
        }
    }

    private static void recordsComplete() {
        Check.sentence("A record (not a choice) is COMPLETE at its } if that is no fault.");
        // Not before its }: inside it there is none to refer to.
        TypedText x = each8();
        x.field(4, 0, 7, false);
        range(x, 4, "{'A':0}", 5);
        range(x, 8, "[{},{'A':1}]", 9);
        fine(x, 8, "[{},{'A':0}]");
        fine(x, 8, "[{'A':{}},0,1]");
        range(x, 8, "[{'A':{}},2]", 10);
        // A possible record is complete as well, and so is one that is an element or a field.
        x.wrap(9, 0, 4);
        x.members(10, -1);
        x.field(10, 0, 9, false);
        x.field(10, 1, 7, false);
        x.field(10, 2, 5, false);
        fine(x, 10, "{'A':{},'B':0}");
        range(x, 10, "{'A':n,'B':0}", 11);
        // A choice is not, though it has that record's fields; a record in it is.
        range(x, 10, "{'C':{'A':0},'B':0}", 17);
        x.members(4, -1);
        x.field(4, 3, 7, false);
        range(x, 10, "{'C':{'A':0,'D':{}},'B':1}", 24);
        fine(x, 10, "{'C':{'A':0,'D':{}},'B':0}");
    }

    private static void choicesValue() {
        Check.sentence("(of a choice: the slot of the tag's record)");
        for (int slot = 0; slot < 11; slot++) {
            TypedText x = new TypedText();
            x.members(slot, -1);
            x.members(11, 5);
            x.tag(11, 3, slot);
            Check.nodes(x, 11, "{'F':3}", "4/" + slot + "/-1/-1");
        }
        TypedText x = new TypedText();
        x.members(11, -1);
        x.members(0, 5);
        x.tag(0, 0, 11);
        Check.nodes(x, 0, "{'F':0}", "4/11/-1/-1");
    }

    private static void referencesValue() {
        Check.sentence("of nothing 0, of a reference k");
        TypedText x = each8();
        Check.nodes(x, 8, "[{},{},1,0,10e-1]", "3/5/-1/-1 4/0/0/0 4/1/0/1 6/1/0/2 6/0/0/3 6/1/0/4");
        Check.nodes(x, 6, "n", "5/0/-1/-1");
        x.list(9, 6, 0, 9);
        Check.nodes(x, 9, "[t,n]", "3/2/-1/-1 2/1/0/0 5/0/0/1");
    }

    private static void parentsAndNames() {
        Check.sentence("its PARENT: the list's or record's node, -1 for the first; its NAME: the field's, in a list the number");
        for (int name = 0; name < 6; name++) {
            TypedText x = each();
            x.members(8, -1);
            x.field(8, name, 2, false);
            x.list(9, 8, 0, 20);
            String record = "{'" + "ABCDEF".charAt(name) + "':t}";
            Check.nodes(x, 8, record, "4/0/-1/-1 2/1/0/" + name);
            Check.nodes(x, 9, "[" + record + "," + record + "]",
                    "3/2/-1/-1 4/0/0/0 2/1/1/" + name + " 4/1/0/1 2/1/3/" + name);
        }
        TypedText x = each();
        x.list(3, 2, 0, 20);
        fine(x, 3, flagsOf(20));
        for (int k = 0; k < 20; k++) {
            Check.same("parent of element " + k, 0, x.node(k + 1, 2));
            Check.same("name of element " + k, k, x.node(k + 1, 3));
        }
        Check.same("parent of the first", -1, x.node(0, 2));
        Check.same("name of the first", -1, x.node(0, 3));
    }
}
