/** Promises 4 to 9: simple, list, members, field, tag and wrap. */
public final class TypesTest {
    private static final int LEAST = Integer.MIN_VALUE;
    private static final int MOST = Integer.MAX_VALUE;

    public static void main(String[] args) {
        simple();
        list();
        members();
        field();
        tag();
        wrap();
        unbinding();
        Check.end();
    }

    private static void simple() {
        TypedText x = new TypedText();
        Check.same("least slot", true, x.simple(0, 2, 0, 0, 0));
        Check.same("most slot", true, x.simple(11, 2, 0, 0, 0));
        Check.same("slot -1", false, x.simple(-1, 2, 0, 0, 0));
        Check.same("slot 12", false, x.simple(12, 2, 0, 0, 0));
        Check.same("what -1", false, x.simple(0, -1, 0, 0, 0));
        Check.same("what 3", false, x.simple(0, 3, 0, 0, 0));
        Check.same("decimals -1", false, x.simple(0, 0, -1, 0, 9));
        Check.same("decimals 5", false, x.simple(0, 0, 5, 0, 9));
        Check.same("least above most", false, x.simple(0, 0, 0, 1, 0));
        Check.same("least far above most", false, x.simple(0, 0, 0, MOST, LEAST));
        Check.same("characters -1", false, x.simple(0, 1, -1, 0, 0));
        Check.same("characters 41", false, x.simple(0, 1, 41, 0, 0));
        Check.fault(x, 0, "t", TypedText.OK, -1);

        Check.same("decimals 0", true, x.simple(1, 0, 0, 3, 3));
        Check.fault(x, 1, "3", TypedText.OK, -1);
        Check.fault(x, 1, "2", TypedText.RANGE, 0);
        Check.fault(x, 1, "4", TypedText.RANGE, 0);
        Check.same("decimals 4", true, x.simple(1, 0, 4, LEAST, MOST));
        Check.prints(x, 1, "-214748.3648", "-214748.3648");
        Check.prints(x, 1, "214748.3647", "214748.3647");
        Check.fault(x, 1, "214748.3648", TypedText.RANGE, 10);
        Check.fault(x, 1, "-214748.3649", TypedText.RANGE, 11);
        Check.same("characters 0", true, x.simple(1, 1, 0, 5, 1));
        Check.fault(x, 1, "\"\"", TypedText.OK, -1);
        Check.fault(x, 1, "\"A\"", TypedText.RANGE, 1);
        Check.same("characters 40", true, x.simple(1, 1, 40, MOST, LEAST));
        Check.fault(x, 1, "\"" + "A".repeat(40) + "\"", TypedText.OK, -1);
        Check.fault(x, 1, "\"" + "A".repeat(41) + "\"", TypedText.RANGE, 41);
        Check.same("flag looks at none", true, x.simple(1, 2, -7, 9, 1));
        Check.fault(x, 1, "f", TypedText.OK, -1);
        Check.fault(x, 1, "1", TypedText.TYPE, 0);
    }

    private static void list() {
        TypedText x = new TypedText();
        x.simple(0, 0, 0, 0, 9);
        Check.same("slot -1", false, x.list(-1, 0, 0, 1));
        Check.same("slot 12", false, x.list(12, 0, 0, 1));
        Check.same("of -1", false, x.list(1, -1, 0, 1));
        Check.same("of 12", false, x.list(1, 12, 0, 1));
        Check.same("least -1", false, x.list(1, 0, -1, 1));
        Check.same("least above most", false, x.list(1, 0, 2, 1));
        Check.same("most 21", false, x.list(1, 0, 0, 21));
        Check.fault(x, 1, "[]", TypedText.UNDEFINED, 0);
        Check.same("none", true, x.list(1, 0, 0, 0));
        Check.fault(x, 1, "[]", TypedText.OK, -1);
        Check.fault(x, 1, "[1]", TypedText.RANGE, 1);
        Check.same("all", true, x.list(1, 0, 20, 20));
        Check.fault(x, 1, "[1" + ",1".repeat(19) + "]", TypedText.OK, -1);
        Check.fault(x, 1, "[1" + ",1".repeat(18) + "]", TypedText.RANGE, 38);
        Check.fault(x, 1, "[1" + ",1".repeat(20) + "]", TypedText.RANGE, 41);
        Check.same("of a slot without a type", true, x.list(11, 10, 0, 1));
        Check.fault(x, 11, "[]", TypedText.OK, -1);
        Check.fault(x, 11, "[ t]", TypedText.UNDEFINED, 2);
        // The type is that which the slot has when it is bound.
        x.simple(10, 2, 0, 0, 0);
        Check.fault(x, 11, "[ t]", TypedText.OK, -1);
    }

    private static void members() {
        TypedText x = new TypedText();
        Check.same("slot -1", false, x.members(-1, -1));
        Check.same("slot 12", false, x.members(12, -1));
        Check.same("name -2", false, x.members(0, -2));
        Check.same("name 6", false, x.members(0, 6));
        Check.fault(x, 0, "{}", TypedText.UNDEFINED, 0);
        Check.same("record", true, x.members(0, -1));
        Check.nodes(x, 0, "{}", "4/0/-1/-1");
        Check.fault(x, 0, "{\"A\":1}", TypedText.NAME, 3);
        x.simple(1, 0, 0, 0, 9);
        Check.same("field", true, x.field(0, 0, 1, true));
        Check.fault(x, 0, "{\"A\":1}", TypedText.OK, -1);
        Check.same("record anew", true, x.members(0, -1));
        Check.fault(x, 0, "{\"A\":1}", TypedText.NAME, 3);
        Check.fault(x, 0, "{}", TypedText.OK, -1);

        for (int name = 0; name < 6; name++) {
            String letter = "ABCDEF".substring(name, name + 1);
            Check.same("choice " + name, true, x.members(2, name));
            Check.fault(x, 2, "{\"" + letter + "\":0}", TypedText.RANGE, 5);
            Check.same("tag", true, x.tag(2, 0, 0));
            Check.fault(x, 2, "{\"" + letter + "\":0}", TypedText.OK, -1);
        }
        Check.same("choice anew", true, x.members(2, 5));
        Check.fault(x, 2, "{\"F\":0}", TypedText.RANGE, 5);
        Check.same("last slot", true, x.members(11, 5));
        Check.same("last slot's last tag", true, x.tag(11, 5, 0));
        Check.same("slot before the last", true, x.members(10, 5));
        Check.same("first tag of the last slot", true, x.tag(11, 0, 0));
        Check.same("slot before the last anew", true, x.members(10, 5));
        Check.fault(x, 11, "{\"F\":0}", TypedText.OK, -1);
        Check.fault(x, 11, "{\"F\":5}", TypedText.OK, -1);
        Check.fault(x, 10, "{\"F\":6}", TypedText.RANGE, 5);
        Check.fault(x, 11, "{\"F\":6}", TypedText.RANGE, 5);
        Check.same("last slot as a record", true, x.members(11, -1));
        for (int name = 0; name < 4; name++) {
            Check.same("last slot's field " + name, true, x.field(11, name, 1, true));
        }
        Check.fault(x, 11, "{\"A\":1,\"B\":1,\"C\":1,\"D\":1}", TypedText.OK, -1);
    }

    private static void field() {
        TypedText x = new TypedText();
        x.simple(1, 0, 0, 0, 9);
        x.members(2, 0);
        Check.same("field of none", false, x.field(0, 0, 1, true));
        Check.same("field of a number", false, x.field(1, 0, 1, true));
        Check.same("field of a choice", false, x.field(2, 0, 1, true));
        x.list(3, 1, 0, 1);
        Check.same("field of a list", false, x.field(3, 0, 1, true));
        x.members(0, -1);
        x.wrap(4, 0, 0);
        Check.same("field of a possible record", false, x.field(4, 0, 1, true));
        x.wrap(4, 1, 0);
        Check.same("field of a shared record", false, x.field(4, 0, 1, true));
        Check.same("slot -1", false, x.field(-1, 0, 1, true));
        Check.same("slot 12", false, x.field(12, 0, 1, true));
        Check.same("name -1", false, x.field(0, -1, 1, true));
        Check.same("name 6", false, x.field(0, 6, 1, true));
        Check.same("of -1", false, x.field(0, 0, -1, true));
        Check.same("of 12", false, x.field(0, 0, 12, true));
        Check.fault(x, 0, "{}", TypedText.OK, -1);

        Check.same("first", true, x.field(0, 5, 1, true));
        Check.same("again", false, x.field(0, 5, 1, false));
        Check.same("again of another", false, x.field(0, 5, 2, true));
        Check.same("second", true, x.field(0, 0, 1, false));
        Check.same("third", true, x.field(0, 3, 11, false));
        Check.same("fourth", true, x.field(0, 1, 0, false));
        Check.same("fifth", false, x.field(0, 2, 1, false));
        Check.fault(x, 0, "{\"F\":1}", TypedText.OK, -1);
        Check.fault(x, 0, "{\"A\":1}", TypedText.MISSING, 6);
        Check.fault(x, 0, "{\"C\":1}", TypedText.NAME, 3);
        Check.fault(x, 0, "{\"D\":1}", TypedText.UNDEFINED, 5);
        Check.fault(x, 0, "{\"B\":{\"F\":1},\"F\":2}", TypedText.OK, -1);
    }

    private static void tag() {
        TypedText x = new TypedText();
        x.members(0, -1);
        x.members(1, -1);
        x.members(2, 0);
        Check.same("tag of none", false, x.tag(5, 0, 0));
        Check.same("tag of a record", false, x.tag(0, 0, 0));
        Check.same("slot -1", false, x.tag(-1, 0, 0));
        Check.same("slot 12", false, x.tag(12, 0, 0));
        Check.same("tag -1", false, x.tag(2, -1, 0));
        Check.same("tag 6", false, x.tag(2, 6, 0));
        Check.same("of -1", false, x.tag(2, 0, -1));
        Check.same("of 12", false, x.tag(2, 0, 12));
        for (int tag = 0; tag < 6; tag++) {
            Check.fault(x, 2, "{\"A\":" + tag + "}", TypedText.RANGE, 5);
        }
        Check.same("tag 0", true, x.tag(2, 0, 0));
        Check.same("tag 5", true, x.tag(2, 5, 1));
        Check.nodes(x, 2, "{\"A\":0}", "4/0/-1/-1");
        Check.nodes(x, 2, "{\"A\":5}", "4/1/-1/-1");
        Check.same("tag 5 anew", true, x.tag(2, 5, 0));
        Check.nodes(x, 2, "{\"A\":5}", "4/0/-1/-1");
        // Only a record will do, and what the slot has counts when it is bound.
        Check.same("tag of no type", true, x.tag(2, 1, 9));
        Check.fault(x, 2, "{\"A\":1}", TypedText.RANGE, 5);
        x.members(9, 1);
        Check.fault(x, 2, "{\"A\":1}", TypedText.RANGE, 5);
        x.wrap(9, 1, 0);
        Check.fault(x, 2, "{\"A\":1}", TypedText.RANGE, 5);
        x.members(9, -1);
        Check.nodes(x, 2, "{\"A\":1}", "4/9/-1/-1");
    }

    private static void wrap() {
        TypedText x = new TypedText();
        x.simple(0, 0, 0, 0, 9);
        x.members(1, -1);
        Check.same("slot -1", false, x.wrap(-1, 0, 0));
        Check.same("slot 12", false, x.wrap(12, 0, 0));
        Check.same("how -1", false, x.wrap(2, -1, 0));
        Check.same("how 2", false, x.wrap(2, 2, 0));
        Check.same("of -1", false, x.wrap(2, 0, -1));
        Check.same("of 12", false, x.wrap(2, 0, 12));
        Check.fault(x, 2, "n", TypedText.UNDEFINED, 0);
        Check.same("possible", true, x.wrap(2, 0, 0));
        Check.nodes(x, 2, "n", "5/0/-1/-1");
        Check.nodes(x, 2, "7", "0/7/-1/-1");
        Check.same("shared", true, x.wrap(2, 1, 1));
        Check.nodes(x, 2, "{}", "4/0/-1/-1");
        Check.fault(x, 2, "n", TypedText.TYPE, 0);
        Check.fault(x, 2, "0", TypedText.RANGE, 0);
        Check.same("shared of a number", true, x.wrap(2, 1, 0));
        Check.fault(x, 2, "0", TypedText.UNDEFINED, 0);
    }

    /** A call that is taken unbinds, one that is refused does not. */
    private static void unbinding() {
        TypedText x = new TypedText();
        x.simple(0, 0, 0, 0, 9);
        x.members(1, -1);
        x.members(2, 0);
        for (int k = 0; k < 6; k++) {
            for (int slot = 12; slot >= 3; slot -= 9) {
                Check.nodes(x, 0, "7", "0/7/-1/-1");
                boolean taken = slot < 12;
                Check.same("type call " + k + " with " + slot, taken, typeCall(x, k, slot));
                Check.same("nodes behind type call " + k + " with " + slot, taken ? 0 : 1, x.nodes());
                Check.same("node behind type call " + k + " with " + slot, taken ? -1 : 7, x.node(0, 1));
                Check.same("place behind type call " + k + " with " + slot, -1, x.place());
                Check.same("print behind type call " + k + " with " + slot, taken ? 0 : 1, x.print());
            }
        }
    }

    private static boolean typeCall(TypedText x, int k, int of) {
        switch (k) {
            case 0:
                return x.simple(of, 2, 0, 0, 0);
            case 1:
                return x.list(4, of, 0, 1);
            case 2:
                return x.members(of, -1);
            case 3:
                return x.field(1, 3, of, false);
            case 4:
                return x.tag(2, 3, of);
            default:
                return x.wrap(5, 0, of);
        }
    }
}
