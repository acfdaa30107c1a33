import java.util.function.Predicate;
import java.util.function.Supplier;

/**
 * Promises 1 to 9, sentence by sentence: each boundary case at the last value that is taken and at the
 * first one that is not, and what the calls after a refused call answer.
 */
public final class CallBoundsTest {
    private static final int LEAST = Integer.MIN_VALUE;
    private static final int MOST = Integer.MAX_VALUE;

    private static final String SETTLED = "[{'A':1.5},0]";
    private static final String FULL = SETTLED + " ".repeat(96 - SETTLED.length());

    private static final int RECORD = 4, FULL_RECORD = 5, CHOICE = 6, FREE = 11;

    private interface Call {
        boolean made(TypedText x, int slot, int value);
    }

    public static void main(String[] args) {
        newObject();
        putCharacters();
        putFull();
        putUnbinds();
        wipeAnswers();
        wipeUnbinds();
        simpleRanges();
        simpleLeastAndMost();
        simpleTakes();
        listRanges();
        listLeastAndMost();
        membersRanges();
        membersAnew();
        fieldRanges();
        fieldOfNoRecord();
        fieldThere();
        fieldsFour();
        tagRanges();
        tagOfNoChoice();
        tagBecomes();
        wrapRanges();
        wrapTakes();
        Check.end();
    }

    // ---- objects to begin with ----

    /** A type of each sort, slot 11 without one. */
    private static TypedText types() {
        TypedText x = new TypedText();
        x.simple(0, 0, 2, -200, 200);
        x.simple(1, 1, 2, 0, 0);
        x.simple(2, 2, 0, 0, 0);
        x.list(3, 0, 1, 2);
        x.members(RECORD, -1);
        x.field(RECORD, 0, 0, true);
        x.field(RECORD, 1, 1, false);
        x.members(FULL_RECORD, -1);
        for (int name = 0; name < 4; name++) {
            x.field(FULL_RECORD, name, name, false);
        }
        x.members(CHOICE, 3);
        x.tag(CHOICE, 0, RECORD);
        x.tag(CHOICE, 5, FULL_RECORD);
        x.wrap(7, 0, RECORD);
        x.wrap(8, 1, RECORD);
        x.list(9, 8, 0, 20);
        x.list(10, 7, 0, 1);
        return x;
    }

    private static TypedText bound(String text) {
        TypedText x = types();
        for (char sign : Check.quoted(text).toCharArray()) {
            x.put(Check.SIGNS.indexOf(sign));
        }
        Check.same("bind of what is settled", TypedText.OK, x.bind(9));
        Check.same("print of what is settled", 13, x.print());
        return x;
    }

    private static TypedText settled() {
        return bound(SETTLED);
    }

    /** The latest bind met a fault: a reference is none of the elements of slot 10. */
    private static TypedText faulty() {
        TypedText x = settled();
        Check.same("bind with a fault", TypedText.TYPE, x.bind(10));
        Check.same("place of the fault", 11, x.place());
        return x;
    }

    // ---- ranges of arguments ----

    /** Taken for the slot from least to most; refused just outside and far off, whatever the slot. */
    private static void range(String what, int slot, int least, int most, Call call) {
        for (int value = least; value <= most; value++) {
            int good = value;
            Check.taken(what + " " + good, CallBoundsTest::settled, x -> call.made(x, slot, good));
            Check.taken(what + " " + good, CallBoundsTest::faulty, x -> call.made(x, slot, good));
        }
        int[] outside = {least - 1, most + 1, LEAST, MOST};
        for (int bad : outside) {
            for (int k = 0; k < 12; k++) {
                int any = k;
                refused(what + " " + bad + " with slot " + any, x -> call.made(x, any, bad));
            }
        }
    }

    private static void slots(String what, Call call) {
        int[] outside = {-1, 12, LEAST, MOST};
        for (int bad : outside) {
            refused(what + " of slot " + bad, x -> call.made(x, bad, 0));
        }
    }

    private static void refused(String what, Predicate<TypedText> call) {
        Check.refused(what, CallBoundsTest::settled, call);
        Check.refused(what + " after a fault", CallBoundsTest::faulty, call);
    }

    // ---- promise 1 ----

    private static void newObject() {
        Check.sentence("No types, an empty text, nothing bound.");
        for (int slot = 0; slot < 12; slot++) {
            for (char begin : "nt1-\"[{".toCharArray()) {
                TypedText x = new TypedText();
                x.put(Check.SIGNS.indexOf(begin));
                Check.same("bind of a new object, " + begin, TypedText.UNDEFINED, x.bind(slot));
                Check.same("place, " + begin, 0, x.place());
                Check.same("field of a new object", false, x.field(slot, 0, 0, false));
                Check.same("tag of a new object", false, x.tag(slot, 0, 0));
            }
        }
        Check.same("wipe of a new object", 0, new TypedText().wipe());
        Check.same("bind of no text", TypedText.SYNTAX, new TypedText().bind(0));
        Check.same("place of a new object", -1, new TypedText().place());
        Check.same("nodes of a new object", 0, new TypedText().nodes());
        Check.same("node of a new object", -1, new TypedText().node(0, 0));
        Check.same("print of a new object", 0, new TypedText().print());
        Check.same("printed of a new object", -1, new TypedText().printed(0));
    }

    // ---- promise 2 ----

    private static void putCharacters() {
        Check.sentence("Appends a character (0..31): true; false, and nothing changes, if it is none");
        range("put", FREE, 0, 31, (x, slot, c) -> x.put(c));
        // It is appended, behind what is there: "1" and then "e" and then "2".
        TypedText x = types();
        x.simple(0, 0, 0, 0, 999);
        int[] number = {1, 19, 2};
        int[] due = {TypedText.OK, TypedText.SYNTAX, TypedText.OK};
        for (int k = 0; k < 3; k++) {
            Check.same("put", true, x.put(number[k]));
            Check.same("put of none", false, x.put(32));
            Check.same("bind behind character " + k, due[k], x.bind(0));
        }
        Check.same("units", 100, x.node(0, 1));
    }

    private static void putFull() {
        Check.sentence("false, and nothing changes, if .. there are 96");
        int[] characters = {0, 20, 31, -1, 32};
        for (int c : characters) {
            Check.refused("a 97th character " + c, () -> bound(FULL), x -> x.put(c));
        }
        Supplier<TypedText> almost = () -> bound(FULL.substring(0, 95));
        Check.taken("a 96th character", almost, x -> x.put(20));
        TypedText x = almost.get();
        Check.same("a 96th character", true, x.put(20));
        Check.same("a 97th character", false, x.put(20));
        Check.same("bind of 96 characters", TypedText.OK, x.bind(9));
        Check.same("wipe of 96 characters", 96, x.wipe());
        Check.same("put behind wipe", true, x.put(20));
    }

    private static void putUnbinds() {
        Check.sentence("What was bound is no more, if it changes.");
        TypedText x = settled();
        Check.same("put of none", false, x.put(-1));
        Check.same("nodes after a refused put", 4, x.nodes());
        Check.same("print after a refused put", 13, x.print());
        Check.same("put of a space", true, x.put(20));
        Check.same("nodes after a put", 0, x.nodes());
        Check.same("put of none when nothing is bound", false, x.put(32));
        Check.same("nodes after a refused put", 0, x.nodes());
        Check.same("bind again", TypedText.OK, x.bind(9));
        Check.same("nodes", 4, x.nodes());
    }

    // ---- promise 3 ----

    private static void wipeAnswers() {
        Check.sentence("Empties the text; answers how long it was.");
        int[] lengths = {0, 1, 2, 95, 96};
        TypedText x = new TypedText();
        for (int length : lengths) {
            for (int k = 0; k < length; k++) {
                Check.same("put " + k, true, x.put(k % 32));
            }
            Check.same("wipe of " + length, length, x.wipe());
            Check.same("wipe of an empty text", 0, x.wipe());
            Check.same("bind of an empty text", TypedText.SYNTAX, x.bind(0));
            Check.same("place of an empty text", 0, x.place());
        }
        // Refused characters are none of the text.
        x.put(1);
        x.put(32);
        x.put(-1);
        Check.same("wipe of one and two refused", 1, x.wipe());
    }

    private static void wipeUnbinds() {
        Check.sentence("What was bound is no more.");
        TypedText x = settled();
        Check.same("wipe", 13, x.wipe());
        Check.same("nodes after wipe", 0, x.nodes());
        Check.same("node after wipe", -1, x.node(0, 0));
        Check.same("place after wipe", -1, x.place());
        Check.same("printed after wipe", 12, x.printed(0));
        Check.same("print after wipe", 0, x.print());
        Check.same("printed of nothing", -1, x.printed(0));
        // The types stay.
        Check.fault(x, 9, SETTLED, TypedText.OK, -1);
        x = faulty();
        int place = x.place();
        Check.same("wipe after a fault", 13, x.wipe());
        Check.same("place after wipe", place, x.place());
    }

    // ---- promise 4 ----

    private static void simpleRanges() {
        Check.sentence("TYPES sit in slots 0..11.");
        range("simple, slot", FREE, 0, 11, (x, slot, value) -> x.simple(value, 2, 0, 0, 0));
        slots("simple, number", (x, slot, value) -> x.simple(slot, 0, 0, 0, 0));
        slots("simple, text", (x, slot, value) -> x.simple(slot, 1, 0, 0, 0));
        Check.sentence("(what 0) a NUMBER .. (1) a TEXT .. (2) a FLAG");
        range("simple, what", FREE, 0, 2, (x, slot, what) -> x.simple(slot, what, 0, 0, 0));
        Check.sentence("NUMBER with D decimals (0..4)");
        range("simple, decimals", FREE, 0, 4, (x, slot, a) -> x.simple(slot, 0, a, 0, 0));
        Check.sentence("(1) a TEXT of at most a (0..40) characters");
        range("simple, characters", FREE, 0, 40, (x, slot, a) -> x.simple(slot, 1, a, 0, 0));
    }

    private static void simpleLeastAndMost() {
        Check.sentence("false, and nothing changes, if one is out of range (b above c too)");
        int[][] fine = {{0, 0}, {0, 1}, {-1, 0}, {LEAST, MOST}, {LEAST, LEAST}, {MOST, MOST}, {-1, -1}, {MOST - 1, MOST}};
        int[][] above = {{1, 0}, {0, -1}, {MOST, LEAST}, {LEAST + 1, LEAST}, {MOST, MOST - 1}, {-1, -2}, {1, -1}, {0, LEAST}};
        for (int decimals = 0; decimals <= 4; decimals++) {
            int a = decimals;
            for (int[] pair : fine) {
                Check.taken("simple from " + pair[0] + " to " + pair[1], CallBoundsTest::settled,
                        x -> x.simple(0, 0, a, pair[0], pair[1]));
            }
            for (int[] pair : above) {
                refused("simple from " + pair[0] + " to " + pair[1], x -> x.simple(0, 0, a, pair[0], pair[1]));
                refused("simple from " + pair[0] + " to " + pair[1], x -> x.simple(FREE, 0, a, pair[0], pair[1]));
            }
        }
    }

    private static void simpleTakes() {
        Check.sentence("The slot's type becomes");
        // Whatever the slot was before, nothing of it is left.
        for (int slot = 0; slot < 12; slot++) {
            TypedText x = types();
            Check.same("simple", true, x.simple(slot, 0, 1, 5, 7));
            Check.nodes(x, slot, "0.5", "0/5/-1/-1");
            Check.nodes(x, slot, "0.7", "0/7/-1/-1");
            Check.fault(x, slot, "0.4", TypedText.RANGE, 2);
            Check.fault(x, slot, "0.8", TypedText.RANGE, 2);
            Check.fault(x, slot, "0.55", TypedText.RANGE, 3);
            Check.fault(x, slot, "n", TypedText.TYPE, 0);
            Check.same("field of a number", false, x.field(slot, 4, 0, false));
            Check.same("tag of a number", false, x.tag(slot, 4, 0));
            Check.same("simple", true, x.simple(slot, 1, 1, 0, 0));
            Check.fault(x, slot, "'A'", TypedText.OK, -1);
            Check.fault(x, slot, "'AA'", TypedText.RANGE, 2);
            Check.fault(x, slot, "0.5", TypedText.TYPE, 0);
            Check.same("simple", true, x.simple(slot, 2, 0, 0, 0));
            Check.fault(x, slot, "t", TypedText.OK, -1);
            Check.fault(x, slot, "'A'", TypedText.TYPE, 0);
        }
    }

    // ---- promise 5 ----

    private static void listRanges() {
        Check.sentence("A LIST of the type in slot of (0..11)");
        range("list, slot", FREE, 0, 11, (x, slot, value) -> x.list(value, 0, 0, 1));
        range("list, of", FREE, 0, 11, (x, slot, of) -> x.list(slot, of, 0, 1));
        slots("list", (x, slot, value) -> x.list(slot, 0, 0, 1));
        for (int of = 0; of < 12; of++) {
            TypedText x = types();
            x.simple(of, 2, 0, 0, 0);
            Check.same("list of slot " + of, true, x.list(of == 0 ? 1 : 0, of, 0, 1));
            Check.fault(x, of == 0 ? 1 : 0, "[t]", TypedText.OK, -1);
        }
    }

    private static void listLeastAndMost() {
        Check.sentence("0 <= least <= most <= 20");
        int[][] fine = {{0, 0}, {0, 20}, {20, 20}, {19, 20}, {0, 1}, {1, 1}, {10, 10}};
        int[][] wrong = {{-1, 0}, {-1, -1}, {1, 0}, {20, 19}, {20, 21}, {21, 21}, {0, 21}, {21, 20},
            {LEAST, MOST}, {MOST, LEAST}, {LEAST, 0}, {0, MOST}, {0, LEAST}, {MOST, 20}, {MOST, MOST}, {LEAST, LEAST}};
        for (int[] pair : fine) {
            Check.taken("list from " + pair[0] + " to " + pair[1], CallBoundsTest::settled, x -> x.list(3, 0, pair[0], pair[1]));
        }
        for (int[] pair : wrong) {
            for (int k = 0; k < 12; k++) {
                int slot = k;
                refused("list " + slot + " from " + pair[0] + " to " + pair[1], x -> x.list(slot, 2, pair[0], pair[1]));
            }
        }
    }

    // ---- promise 6 ----

    private static void membersRanges() {
        Check.sentence("A RECORD without fields (name -1), or a CHOICE by a name (letter 0..5) without tags; likewise.");
        range("members, slot", FREE, 0, 11, (x, slot, value) -> x.members(value, -1));
        range("members, slot of a choice", FREE, 0, 11, (x, slot, value) -> x.members(value, 5));
        range("members, name", FREE, -1, 5, (x, slot, name) -> x.members(slot, name));
        slots("members", (x, slot, value) -> x.members(slot, -1));
        slots("members of a choice", (x, slot, value) -> x.members(slot, 0));
    }

    private static void membersAnew() {
        Check.sentence("A RECORD without fields .. a CHOICE .. without tags");
        for (int slot = 0; slot < 12; slot++) {
            TypedText x = types();
            Check.same("record", true, x.members(slot, -1));
            Check.fault(x, slot, "{}", TypedText.OK, -1);
            for (int name = 0; name < 6; name++) {
                Check.fault(x, slot, "{'" + "ABCDEF".charAt(name) + "':1}", TypedText.NAME, 3);
            }
            Check.same("tag of a record", false, x.tag(slot, 0, 4));
            // All four fields have room again.
            for (int name = 0; name < 4; name++) {
                Check.same("field " + name, true, x.field(slot, name, slot, false));
            }
            Check.same("fifth field", false, x.field(slot, 4, slot, false));
            x = types();
            Check.same("choice", true, x.members(slot, 3));
            for (int tag = 0; tag < 6; tag++) {
                Check.fault(x, slot, "{'D':" + tag + "}", TypedText.RANGE, 5);
            }
            Check.same("field of a choice", false, x.field(slot, 4, 0, false));
        }
    }

    // ---- promise 7 ----

    private static void fieldRanges() {
        Check.sentence("Adds to the record a field with a name 0..5, the type of slot of .. false .. if .. one is out of range");
        slots("field", (x, slot, value) -> x.field(slot, 2, 0, true));
        // The record has the names 0 and 1 already, so 2 is the least that it takes.
        range("field, name", RECORD, 2, 5, (x, slot, name) -> x.field(slot, name, 0, true));
        refused("field, name -1", x -> x.field(RECORD, -1, 0, true));
        range("field, of", RECORD, 0, 11, (x, slot, of) -> x.field(slot, 2, of, true));
        TypedText x = types();
        x.members(11, -1);
        Check.same("name 0", true, x.field(11, 0, 2, false));
        Check.same("name 5", true, x.field(11, 5, 2, false));
        Check.same("name 6", false, x.field(11, 6, 2, false));
        Check.fault(x, 11, "{'A':t,'F':f}", TypedText.OK, -1);
        Check.fault(x, 11, "{'A':t,'E':f}", TypedText.NAME, 9);
    }

    private static void fieldOfNoRecord() {
        Check.sentence("false, and nothing changes, if it is no record");
        int[] none = {0, 1, 2, 3, CHOICE, 7, 8, 9, 10, FREE};
        for (int slot : none) {
            refused("field of slot " + slot, x -> x.field(slot, 4, 0, false));
        }
        Check.taken("field of a record", CallBoundsTest::settled, x -> x.field(RECORD, 4, 0, false));
    }

    private static void fieldThere() {
        Check.sentence("if .. it has that field");
        for (int name = 0; name < 2; name++) {
            int there = name;
            for (int of = 0; of < 12; of++) {
                int any = of;
                refused("field " + there + " again", x -> x.field(RECORD, there, any, true));
                refused("field " + there + " again", x -> x.field(RECORD, there, any, false));
            }
        }
        // Another record's field is nothing to it.
        TypedText x = types();
        Check.same("field 2, which the full record has", true, x.field(RECORD, 2, 2, false));
    }

    private static void fieldsFour() {
        Check.sentence("RECORD with up to 4 fields .. false .. if .. it has .. 4");
        for (int name = 0; name < 6; name++) {
            int any = name;
            refused("field " + any + " of a full record", x -> x.field(FULL_RECORD, any, 0, true));
        }
        for (int slot = 0; slot < 12; slot++) {
            TypedText x = types();
            x.simple(slot == 0 ? 1 : 0, 2, 0, 0, 0);
            int of = slot == 0 ? 1 : 0;
            x.members(slot, -1);
            for (int k = 0; k < 4; k++) {
                Check.same("field " + (k + 1), true, x.field(slot, 5 - k, of, k == 3));
            }
            Check.same("a fifth field", false, x.field(slot, 1, of, true));
            Check.same("a fifth field that is there", false, x.field(slot, 2, of, false));
            Check.prints(x, slot, "{'C':t,'D':f,'E':t,'F':f}", "{'F':f,'E':t,'D':f,'C':t}");
            Check.fault(x, slot, "{'C':t}", TypedText.OK, -1);
            Check.fault(x, slot, "{'D':f,'E':t,'F':f}", TypedText.MISSING, 18);
            Check.fault(x, slot, "{'C':t,'B':t}", TypedText.NAME, 9);
        }
    }

    // ---- promise 8 ----

    private static void tagRanges() {
        Check.sentence("The type in slot of becomes that of the choice's tag (0..5); false .. if .. one is out of range.");
        slots("tag", (x, slot, value) -> x.tag(slot, 0, 0));
        range("tag, tag", CHOICE, 0, 5, (x, slot, tag) -> x.tag(slot, tag, FULL_RECORD));
        range("tag, of", CHOICE, 0, 11, (x, slot, of) -> x.tag(slot, 0, of));
    }

    private static void tagOfNoChoice() {
        Check.sentence("false, and nothing changes, if slot is no choice");
        int[] none = {0, 1, 2, 3, RECORD, FULL_RECORD, 7, 8, 9, 10, FREE};
        for (int slot : none) {
            for (int tag = 0; tag < 6; tag++) {
                int any = tag;
                refused("tag " + any + " of slot " + slot, x -> x.tag(slot, any, RECORD));
            }
        }
    }

    private static void tagBecomes() {
        Check.sentence("The type in slot of becomes that of the choice's tag (0..5)");
        for (int tag = 0; tag < 6; tag++) {
            TypedText x = types();
            x.members(11, 5);
            Check.same("tag " + tag, true, x.tag(11, tag, FULL_RECORD));
            for (int other = -1; other <= 6; other++) {
                boolean there = other == tag;
                Check.fault(x, 11, "{'F':" + other + "}", there ? TypedText.OK : TypedText.RANGE,
                        there ? -1 : other < 0 ? 6 : 5);
            }
            Check.same("tag " + tag + " anew", true, x.tag(11, tag, RECORD));
            Check.fault(x, 11, "{'F':" + tag + "}", TypedText.MISSING, 6);
            Check.nodes(x, 11, "{'F':" + tag + ",'A':1}", "4/4/-1/-1 0/100/0/0");
            // A tag whose slot has no record is none.
            Check.same("tag " + tag + " of a number", true, x.tag(11, tag, 0));
            Check.fault(x, 11, "{'F':" + tag + "}", TypedText.RANGE, 5);
        }
    }

    // ---- promise 9 ----

    private static void wrapRanges() {
        Check.sentence("A WRAPPED type: POSSIBLE (how 0) or SHARED (1) of the type in slot of; false likewise.");
        range("wrap, slot", FREE, 0, 11, (x, slot, value) -> x.wrap(value, 0, 4));
        range("wrap, how", FREE, 0, 1, (x, slot, how) -> x.wrap(slot, how, 4));
        range("wrap, of, possible", FREE, 0, 11, (x, slot, of) -> x.wrap(slot, 0, of));
        range("wrap, of, shared", FREE, 0, 11, (x, slot, of) -> x.wrap(slot, 1, of));
        slots("wrap, possible", (x, slot, value) -> x.wrap(slot, 0, 4));
        slots("wrap, shared", (x, slot, value) -> x.wrap(slot, 1, 4));
    }

    private static void wrapTakes() {
        Check.sentence("A WRAPPED type");
        for (int slot = 0; slot < 12; slot++) {
            if (slot != RECORD) {
                TypedText x = types();
                // The record's own field may have been the slot: give it another.
                x.members(RECORD, -1);
                Check.same("possible", true, x.wrap(slot, 0, RECORD));
                Check.nodes(x, slot, "n", "5/0/-1/-1");
                Check.nodes(x, slot, "{}", "4/0/-1/-1");
                Check.fault(x, slot, "0", TypedText.TYPE, 0);
                Check.same("shared", true, x.wrap(slot, 1, RECORD));
                Check.nodes(x, slot, "{}", "4/0/-1/-1");
                Check.fault(x, slot, "n", TypedText.TYPE, 0);
                Check.fault(x, slot, "0", TypedText.RANGE, 0);
            }
        }
    }
}
