import java.math.BigDecimal;
import java.math.BigInteger;
import java.util.ArrayList;
import java.util.Arrays;
import java.util.List;
import java.util.Random;
import java.util.regex.Matcher;
import java.util.regex.Pattern;

/**
 * Promises 1 to 16 on made-up types, texts and runs of calls, against a second reading of the document in
 * another manner: it descends through the text, gathers every fault that it meets, and takes the least of them
 * at the end. The made-up ones are the same each time.
 */
public final class ModelTest {
    private static final int ROUNDS = 60000;
    private static final int RUNS = 3000;
    // The document promises nothing about an object behind this one.
    private static final int CALLS = 512;
    private static final int UNTYPED = -2;
    private static final Pattern NUMBER = Pattern.compile("-?(0|[1-9][0-9]*)(\\.[0-9]+)?(e[-+]?[0-9]+)?");

    private static final char NUM = 'N', TXT = 'T', FLAG = 'F', LIST = 'L', REC = 'R', CHOICE = 'C', POSS = 'P', SHARED = 'S', NO = '-';

    private static final class Type {
        char kind = NO;
        int a;
        int least;
        int most;
        List<int[]> fields = new ArrayList<>();
        int[] tags = {-1, -1, -1, -1, -1, -1};
    }

    private static final class Node {
        int kind;
        int value;
        int parent;
        int name;
        String form;
        List<Integer> order;
        int tag = -1;
        int choiceName;
        boolean isList;
    }

    private static final class Cut extends RuntimeException {
        private static final long serialVersionUID = 1L;
    }

    private static final int[] DUE_IN_RUNS = new int[9];

    private final Random random;
    private final Type[] types = new Type[12];
    private String s = "";
    private int p = 0;
    private final List<int[]> faults = new ArrayList<>();
    private final List<Node> nodes = new ArrayList<>();
    private final int[] complete = new int[12];

    // What a run of calls has left behind.
    private TypedText object;
    private int calls = 0;
    private final StringBuilder told = new StringBuilder();
    private boolean bound = false;
    private int place = -1;
    private String printed = "";

    private ModelTest(long seed) {
        random = new Random(seed);
    }

    public static void main(String[] args) {
        int rounds = args.length > 0 ? Integer.parseInt(args[0]) : ROUNDS;
        int[] seen = new int[9];
        for (int k = 0; k < rounds; k++) {
            seen[new ModelTest(k).round()]++;
        }
        System.out.println("how often each code was due: " + Arrays.toString(seen));
        allTexts();
        for (int k = 0; k < RUNS; k++) {
            new ModelTest(k).run();
        }
        System.out.println("in the runs: " + Arrays.toString(DUE_IN_RUNS));
        for (int code = 0; code < 9; code++) {
            Check.same("code " + code + " was due now and then", true, seen[code] > 0);
            Check.same("code " + code + " was due now and then in the runs", true, DUE_IN_RUNS[code] > 0);
        }
        Check.end();
    }

    // ---- all short texts ----

    /** Every text of so many pieces, bound to slots of types that can begin and end with them. */
    private static void allTexts() {
        ModelTest model = new ModelTest(0);
        model.all(Check.SIGNS.split(""), 3, 0, 1, 2, 3, 4, 5, 6, 7, 8, 11);
        model.all(new String[] {"-", "0", "1", "5", ".", "e", "+", " "}, 6, 0, 9);
        model.all(new String[] {"\"", "\\", "A", " ", ","}, 7, 1);
        model.all(new String[] {"{", "}", "[", "]", ",", "\"A\":", "\"B\":", "\"C\":", "1", "0", "n"}, 5, 4, 5, 6, 8, 10);
        model.all(new String[] {"{}", "{},", "[", "]", ",", "0", "1", " "}, 6, 3, 8);
    }

    /** 0 number, 1 text, 2 flag, 3 list, 4 record, 5 choice, 6 possible, 7 shared, 8 list of 7, 9 number, 10 list of 6, 11 none. */
    private TypedText fixedTypes() {
        TypedText x = new TypedText();
        for (int slot = 0; slot < 12; slot++) {
            types[slot] = new Type();
        }
        x.simple(0, 0, 0, 0, 9);
        fix(0, NUM, 0, 0, 9);
        x.simple(1, 1, 1, 0, 0);
        fix(1, TXT, 1, 0, 0);
        x.simple(2, 2, 0, 0, 0);
        fix(2, FLAG, 0, 0, 0);
        x.list(3, 0, 1, 2);
        fix(3, LIST, 0, 1, 2);
        x.members(4, -1);
        fix(4, REC, 0, 0, 0);
        x.field(4, 0, 0, false);
        x.field(4, 1, 6, false);
        types[4].fields.add(new int[] {0, 0, 0});
        types[4].fields.add(new int[] {1, 6, 0});
        x.members(5, 0);
        fix(5, CHOICE, 0, 0, 0);
        x.tag(5, 1, 4);
        types[5].tags[1] = 4;
        x.wrap(6, 0, 4);
        fix(6, POSS, 4, 0, 0);
        x.wrap(7, 1, 4);
        fix(7, SHARED, 4, 0, 0);
        x.list(8, 7, 0, 3);
        fix(8, LIST, 7, 0, 3);
        x.simple(9, 0, 1, -50, 50);
        fix(9, NUM, 1, -50, 50);
        x.list(10, 6, 0, 1);
        fix(10, LIST, 6, 0, 1);
        return x;
    }

    private void fix(int slot, char kind, int a, int least, int most) {
        types[slot].kind = kind;
        types[slot].a = a;
        types[slot].least = least;
        types[slot].most = most;
    }

    private void all(String[] pieces, int most, int... slots) {
        long count = 1;
        for (int length = 0; length <= most; length++) {
            for (long k = 0; k < count; k++) {
                StringBuilder text = new StringBuilder();
                long rest = k;
                for (int piece = 0; piece < length; piece++) {
                    text.append(pieces[(int) (rest % pieces.length)]);
                    rest /= pieces.length;
                }
                TypedText x = fixedTypes();
                write(x, text.toString());
                for (int slot : slots) {
                    compare(x, slot);
                }
            }
            count *= pieces.length;
        }
    }

    // ---- runs of all calls in any order ----

    private void run() {
        object = new TypedText();
        for (int slot = 0; slot < 12; slot++) {
            types[slot] = new Type();
        }
        while (calls < CALLS) {
            int kind = random.nextInt(100);
            if (kind < 40) {
                typeCall();
            } else if (kind < 50) {
                putCall(edge(0, 31));
            } else if (kind < 51) {
                wipeCall();
            } else if (kind < 56) {
                writeCalls();
            } else if (kind < 70) {
                bindCall(edge(0, 11));
            } else {
                askCall();
            }
        }
    }

    /** Mostly one of low to high, else one beside them or far away. */
    private int edge(int low, int high) {
        int[] outside = {low - 1, high + 1, Integer.MIN_VALUE, Integer.MAX_VALUE, -2, 64};
        int inside = low + random.nextInt(high - low + 1);
        switch (random.nextInt(12)) {
            case 0:
                return outside[random.nextInt(outside.length)];
            case 1:
                return random.nextBoolean() ? low : high;
            default:
                return inside;
        }
    }

    private static boolean within(int k, int low, int high) {
        return k >= low && k <= high;
    }

    /** Calls behind the last one that counts are made, but not looked at. */
    private void due(String call, Object want, Object got) {
        calls++;
        told.append(' ').append(call);
        if (calls <= CALLS) {
            Check.same(want.equals(got) ? "" : "the last of" + told, want, got);
        }
    }

    private void putCall(int c) {
        boolean right = within(c, 0, 31) && s.length() < 96;
        due("put(" + c + ")", right, object.put(c));
        if (right) {
            s += Check.SIGNS.charAt(c);
            bound = false;
        }
    }

    private void wipeCall() {
        due("wipe()", s.length(), object.wipe());
        s = "";
        bound = false;
    }

    /** A text for one of the types, bound to it at once. */
    private void writeCalls() {
        int slot = random.nextInt(12);
        wipeCall();
        for (char sign : makeText(slot).toCharArray()) {
            putCall(Check.SIGNS.indexOf(sign));
        }
        bindCall(slot);
    }

    private void bindCall(int slot) {
        int code = TypedText.UNDEFINED;
        place = 0;
        if (within(slot, 0, 11)) {
            read(slot);
            int[] least = leastFault();
            code = least == null ? TypedText.OK : least[1];
            place = least == null ? -1 : least[0];
        }
        DUE_IN_RUNS[code]++;
        bound = code == TypedText.OK;
        due("bind(" + slot + ")", code, object.bind(slot));
    }

    private void askCall() {
        switch (random.nextInt(5)) {
            case 0:
                due("place()", place, object.place());
                break;
            case 1:
                due("nodes()", bound ? nodes.size() : 0, object.nodes());
                break;
            case 2:
                askNode(edge(0, bound ? nodes.size() - 1 : 39), edge(0, 3));
                break;
            case 3:
                printed = bound ? form(0) : "";
                due("print()", printed.length(), object.print());
                break;
            default:
                int k = edge(0, Math.max(1, printed.length()) - 1);
                boolean there = within(k, 0, Math.min(192, printed.length()) - 1);
                due("printed(" + k + ")", there ? Check.SIGNS.indexOf(printed.charAt(k)) : -1, object.printed(k));
                break;
        }
    }

    private void askNode(int k, int what) {
        int want = -1;
        if (bound && within(k, 0, nodes.size() - 1) && within(what, 0, 3)) {
            Node n = nodes.get(k);
            want = new int[] {n.kind, n.value, n.parent, n.name}[what];
        }
        due("node(" + k + ", " + what + ")", want, object.node(k, what));
    }

    private void typeCall() {
        boolean right;
        int slot = edge(0, 11);
        switch (random.nextInt(8)) {
            case 0:
                right = simpleCall(slot, edge(0, 2));
                break;
            case 1:
                right = listCall(slot, edge(0, 11), edge(0, 3), edge(0, 20));
                break;
            case 2:
                right = membersCall(slot, random.nextBoolean() ? -1 : edge(-1, 5));
                break;
            case 3:
                right = wrapCall(slot, edge(0, 1), edge(0, 11));
                break;
            case 4:
                right = tagCall(mostly(CHOICE, slot), edge(0, 5), mostly(REC, edge(0, 11)));
                break;
            default:
                right = fieldCall(mostly(REC, slot), edge(0, 5), edge(0, 11), random.nextInt(4) == 0);
                break;
        }
        bound &= !right;
    }

    /** Mostly a slot with a type of this kind, if there is one. */
    private int mostly(char kind, int slot) {
        int start = random.nextInt(12);
        for (int k = 0; k < 12 && random.nextInt(60) > 0; k++) {
            if (types[(start + k) % 12].kind == kind) {
                return (start + k) % 12;
            }
        }
        return slot;
    }

    private boolean simpleCall(int slot, int what) {
        int a = what == 1 ? edge(0, 40) : edge(0, 4);
        int b = edge(-200, 100);
        int c = edge(0, 200);
        boolean right = within(slot, 0, 11) && (what == 0 && within(a, 0, 4) && b <= c || what == 1 && within(a, 0, 40) || what == 2);
        due("simple(" + slot + ", " + what + ", " + a + ", " + b + ", " + c + ")", right, object.simple(slot, what, a, b, c));
        if (right) {
            types[slot] = new Type();
            // The flag's and the text's numbers may be any; the makers of texts want them small.
            fix(slot, what == 0 ? NUM : what == 1 ? TXT : FLAG, what == 2 ? 0 : a, what == 0 ? b : 0, what == 0 ? c : 0);
        }
        return right;
    }

    private boolean listCall(int slot, int of, int least, int most) {
        boolean right = within(slot, 0, 11) && within(of, 0, 11) && 0 <= least && least <= most && most <= 20;
        due("list(" + slot + ", " + of + ", " + least + ", " + most + ")", right, object.list(slot, of, least, most));
        if (right) {
            types[slot] = new Type();
            fix(slot, LIST, of, least, most);
        }
        return right;
    }

    private boolean membersCall(int slot, int name) {
        boolean right = within(slot, 0, 11) && within(name, -1, 5);
        due("members(" + slot + ", " + name + ")", right, object.members(slot, name));
        if (right) {
            types[slot] = new Type();
            fix(slot, name < 0 ? REC : CHOICE, Math.max(0, name), 0, 0);
        }
        return right;
    }

    private boolean fieldCall(int slot, int name, int of, boolean needed) {
        boolean right = within(slot, 0, 11) && within(name, 0, 5) && within(of, 0, 11)
                && types[slot].kind == REC && types[slot].fields.size() < 4;
        if (right) {
            for (int[] f : types[slot].fields) {
                right &= f[0] != name;
            }
        }
        due("field(" + slot + ", " + name + ", " + of + ", " + needed + ")", right, object.field(slot, name, of, needed));
        if (right) {
            types[slot].fields.add(new int[] {name, of, needed ? 1 : 0});
        }
        return right;
    }

    private boolean tagCall(int slot, int tag, int of) {
        boolean right = within(slot, 0, 11) && within(tag, 0, 5) && within(of, 0, 11) && types[slot].kind == CHOICE;
        due("tag(" + slot + ", " + tag + ", " + of + ")", right, object.tag(slot, tag, of));
        if (right) {
            types[slot].tags[tag] = of;
        }
        return right;
    }

    private boolean wrapCall(int slot, int how, int of) {
        boolean right = within(slot, 0, 11) && within(how, 0, 1) && within(of, 0, 11);
        due("wrap(" + slot + ", " + how + ", " + of + ")", right, object.wrap(slot, how, of));
        if (right) {
            types[slot] = new Type();
            fix(slot, how == 0 ? POSS : SHARED, of, 0, 0);
        }
        return right;
    }

    // ---- one round ----

    private int round() {
        TypedText x = new TypedText();
        makeTypes(x);
        int slot = random.nextInt(12);
        for (int k = 0; k < 5 && types[slot].kind == NO; k++) {
            slot = random.nextInt(12);
        }
        write(x, makeText(slot));
        return compare(x, slot);
    }

    private void write(TypedText x, String text) {
        s = text;
        x.wipe();
        for (char sign : s.toCharArray()) {
            x.put(Check.SIGNS.indexOf(sign));
        }
    }

    private int[] leastFault() {
        int[] least = null;
        for (int[] fault : faults) {
            if (least == null || fault[0] < least[0] || fault[0] == least[0] && fault[1] < least[1]) {
                least = fault;
            }
        }
        return least;
    }

    private int compare(TypedText x, int slot) {
        read(slot);
        int[] least = leastFault();
        int code = least == null ? 0 : least[1];
        int place = least == null ? -1 : least[0];
        String print = least == null ? form(0) : "";
        String kept = print.substring(0, Math.min(192, print.length()));
        String due = answers(code, place, least == null ? told(nodes) : "", print.length(), kept);
        int gotCode = x.bind(slot);
        String got = answers(gotCode, x.place(), Check.nodesOf(x), x.print(), Check.printedOf(x));
        Check.same(due.equals(got) ? "" : s + " in slot " + slot + " of " + told(), due, got);
        return code;
    }

    private static String answers(int code, int place, String nodes, int length, String printed) {
        return "code " + code + " place " + place + " nodes " + nodes + " print " + length + " " + printed;
    }

    private String told() {
        StringBuilder all = new StringBuilder();
        for (Type t : types) {
            all.append(t.kind).append(t.a).append('/').append(t.least).append('/').append(t.most);
            for (int[] f : t.fields) {
                all.append(Arrays.toString(f));
            }
            all.append(t.kind == CHOICE ? Arrays.toString(t.tags) : "").append("; ");
        }
        return all.toString();
    }

    private static String told(List<Node> nodes) {
        StringBuilder all = new StringBuilder();
        for (Node n : nodes) {
            all.append(all.length() == 0 ? "" : " ");
            all.append(n.kind).append('/').append(n.value).append('/').append(n.parent).append('/').append(n.name);
        }
        return all.toString();
    }

    // ---- types ----

    private void makeTypes(TypedText x) {
        String kinds = "NNTFLLLRRRCCPPSS";
        for (int slot = 0; slot < 12; slot++) {
            Type t = new Type();
            types[slot] = t;
            t.kind = random.nextInt(20) == 0 ? NO : kinds.charAt(random.nextInt(kinds.length()));
            t.a = random.nextInt(12);
            if (t.kind == NUM) {
                t.a = random.nextInt(5);
                int one = random.nextInt(4) == 0 ? random.nextInt() : random.nextInt(300) - 150;
                int two = random.nextInt(4) == 0 ? random.nextInt() : random.nextInt(300) - 150;
                boolean wide = random.nextInt(4) == 0;
                t.least = wide ? Integer.MIN_VALUE : Math.min(one, two);
                t.most = wide ? Integer.MAX_VALUE : Math.max(one, two);
                x.simple(slot, 0, t.a, t.least, t.most);
            } else if (t.kind == TXT) {
                t.a = random.nextInt(7);
                x.simple(slot, 1, t.a, 0, 0);
            } else if (t.kind == FLAG) {
                x.simple(slot, 2, 0, 0, 0);
            } else if (t.kind == LIST) {
                t.least = random.nextInt(3) == 0 ? random.nextInt(3) : 0;
                t.most = random.nextInt(3) == 0 ? t.least + random.nextInt(3) : 20;
                x.list(slot, t.a, t.least, t.most);
            } else if (t.kind == REC) {
                x.members(slot, -1);
            } else if (t.kind == CHOICE) {
                t.a = random.nextInt(6);
                x.members(slot, t.a);
            }
        }
        for (int slot = 0; slot < 12; slot++) {
            if (types[slot].kind == REC) {
                addFields(x, slot);
            } else if (types[slot].kind == CHOICE) {
                addTags(x, slot);
            } else if (types[slot].kind == POSS || types[slot].kind == SHARED) {
                boolean shared = types[slot].kind == SHARED;
                types[slot].a = anySlot(shared ? "R" : "NTFLRC");
                x.wrap(slot, shared ? 1 : 0, types[slot].a);
            }
        }
    }

    /** Mostly a slot with a type of these kinds. */
    private int anySlot(String kinds) {
        int slot = random.nextInt(12);
        for (int k = 0; k < 30 && kinds.indexOf(types[slot].kind) < 0; k++) {
            slot = random.nextInt(12);
        }
        return random.nextInt(20) == 0 ? random.nextInt(12) : slot;
    }

    private void addFields(TypedText x, int slot) {
        int count = random.nextInt(6);
        for (int k = 0; k < count; k++) {
            int name = random.nextInt(6);
            int of = anySlot("NTFLRCPS");
            boolean needed = random.nextInt(4) == 0;
            boolean there = types[slot].fields.size() == 4;
            for (int[] f : types[slot].fields) {
                there |= f[0] == name;
            }
            Check.same("field", !there, x.field(slot, name, of, needed));
            if (!there) {
                types[slot].fields.add(new int[] {name, of, needed ? 1 : 0});
            }
        }
    }

    private void addTags(TypedText x, int slot) {
        for (int k = 0; k < 5; k++) {
            int tag = random.nextInt(6);
            int of = anySlot("R");
            types[slot].tags[tag] = of;
            x.tag(slot, tag, of);
        }
    }

    // ---- texts ----

    private String makeText(int slot) {
        String made = make(slot, 0);
        for (int k = random.nextInt(4) - 1; k > 0; k--) {
            made = spoil(made);
        }
        return made.length() > 96 ? made.substring(0, 96) : made;
    }

    private String spoil(String made) {
        int where = random.nextInt(made.length() + 1);
        String sign = "" + Check.SIGNS.charAt(random.nextInt(32));
        String rest = made.substring(where);
        switch (random.nextInt(4)) {
            case 0:
                return made.substring(0, where) + sign + rest;
            case 1:
                return made.substring(0, where) + sign + (rest.isEmpty() ? "" : rest.substring(1));
            case 2:
                return made.substring(0, where) + (rest.isEmpty() ? "" : rest.substring(1));
            default:
                return made.substring(0, where);
        }
    }

    private String space() {
        return random.nextInt(15) == 0 ? " " : "";
    }

    private String make(int slot, int level) {
        return space() + makeBare(slot, level) + space();
    }

    private String makeBare(int slot, int level) {
        Type t = types[slot];
        char kind = t.kind;
        if (random.nextInt(60) == 0) {
            kind = "NTFLRCPS".charAt(random.nextInt(8));
        }
        if (level > 8) {
            return "n";
        }
        switch (kind) {
            case NUM:
                return makeNumber(t);
            case TXT:
                return makeString(random.nextInt(Math.max(1, t.a % 8 + (random.nextInt(10) == 0 ? 2 : 1))));
            case FLAG:
                return random.nextBoolean() ? "t" : "f";
            case LIST:
                return makeList(t, level);
            case REC:
                return "{" + space() + makeMembers(t, -1, level) + "}";
            case CHOICE:
                return makeChoice(t, level);
            case POSS:
                return random.nextInt(level > 2 ? 2 : 4) == 0 ? "n" : makeBare(t.a % 12, level + 1);
            case SHARED:
                return random.nextInt(2) == 0 ? makeSmall(random.nextInt(3)) : makeBare(t.a % 12, level + 1);
            default:
                return "ntf1[{".substring(random.nextInt(6)).substring(0, 1);
        }
    }

    private String makeSmall(int k) {
        String[] ways = {"" + k, "" + k, "" + k, k + ".0", k + "0e-1", "-" + k, k + ".5", "0." + k + "e1", k + "e0"};
        return ways[random.nextInt(ways.length)];
    }

    private String makeNumber(Type t) {
        long span = (long) t.most - t.least + 1;
        long units = t.least + Math.floorMod(random.nextLong(), Math.max(1, span));
        if (random.nextInt(20) == 0) {
            units = random.nextBoolean() ? t.least - 1L : t.most + 1L;
        } else if (random.nextInt(5) == 0) {
            units = random.nextBoolean() ? t.least : t.most;
        }
        BigDecimal exact = BigDecimal.valueOf(units, t.a % 5);
        if (random.nextInt(20) == 0) {
            exact = exact.add(BigDecimal.valueOf(1, 6));
        }
        int shift = random.nextInt(3) == 0 ? random.nextInt(21) - 10 : 0;
        String digits = exact.movePointLeft(shift).toPlainString();
        if (digits.indexOf('.') >= 0 && random.nextInt(2) == 0) {
            digits += "0".repeat(random.nextInt(3));
        }
        if (digits.startsWith("0E") || digits.indexOf('E') >= 0) {
            digits = "0";
        }
        String sign = shift < 0 ? "-" : random.nextBoolean() ? "+" : "";
        boolean bare = shift == 0 && random.nextBoolean();
        return bare ? digits : digits + "e" + sign + (random.nextInt(5) == 0 ? "0" : "") + Math.abs(shift);
    }

    private String makeString(int count) {
        StringBuilder all = new StringBuilder("\"");
        for (int k = 0; k < count; k++) {
            char sign = Check.SIGNS.charAt(random.nextInt(32));
            if (random.nextInt(4) == 0) {
                sign = random.nextBoolean() ? '"' : '\\';
            }
            all.append(sign == '"' || sign == '\\' ? "\\" : "").append(sign);
        }
        return all.append('"').toString();
    }

    private String makeList(Type t, int level) {
        int count = t.least + random.nextInt(level == 0 || random.nextInt(6) == 0 ? 20 : 4);
        if (random.nextInt(10) != 0) {
            count = Math.min(count, Math.max(t.most % 21, 1));
        }
        if (level > 4 && random.nextInt(3) > 0) {
            count = t.least % 3;
        }
        StringBuilder all = new StringBuilder("[" + space());
        for (int k = 0; k < count && all.length() < 100; k++) {
            all.append(k == 0 ? "" : ",").append(make(t.a % 12, level + 1));
        }
        return all.append("]").toString();
    }

    private String makeChoice(Type t, int level) {
        int tag = random.nextInt(6);
        for (int k = 0; k < 20 && (t.tags[tag] < 0 || types[t.tags[tag]].kind != REC); k++) {
            tag = random.nextInt(6);
        }
        if (random.nextInt(40) == 0) {
            tag = random.nextInt(8);
        }
        String head = "{" + space() + "\"" + "ABCDEF".charAt(t.a % 6) + "\"" + space() + ":" + space();
        String number = makeSmall(tag);
        number = random.nextInt(3) > 0 ? "" + tag : number;
        if (random.nextInt(30) == 0) {
            return head + "}";
        }
        int of = tag < 6 ? t.tags[tag] : -1;
        String rest = of < 0 ? "" : makeMembers(types[of], t.a % 6, level);
        return head + number + space() + (rest.isEmpty() ? "" : ",") + rest + "}";
    }

    private String makeMembers(Type t, int but, int level) {
        List<String> all = new ArrayList<>();
        for (int[] f : t.fields) {
            boolean left = f[2] == 1 ? random.nextInt(30) == 0 : random.nextInt(level > 3 ? 2 : 4) == 0;
            if (f[0] == but ? random.nextInt(30) == 0 : !left) {
                String name = "ABCDEF".substring(f[0], f[0] + 1);
                if (random.nextInt(60) == 0) {
                    name = makeString(random.nextInt(3)).replaceAll("^\"|\"$", "");
                }
                String member = space() + "\"" + name + "\"" + space() + ":" + make(f[1], level + 1);
                all.add(all.isEmpty() ? 0 : random.nextInt(all.size() + 1), member);
            }
        }
        if (!all.isEmpty() && random.nextInt(60) == 0) {
            all.add(all.get(0));
        }
        return String.join(",", all);
    }

    // ---- the second reading ----

    private void read(int slot) {
        p = 0;
        faults.clear();
        nodes.clear();
        Arrays.fill(complete, 0);
        try {
            value(slot, -1, -1, 0, false);
            skip();
            if (p < s.length()) {
                syntax();
            }
        } catch (Cut cut) {
            // The fault is among the others.
        }
    }

    private void add(int place, int code) {
        faults.add(new int[] {place, code});
    }

    private void syntax() {
        add(p, TypedText.SYNTAX);
        throw new Cut();
    }

    private void skip() {
        while (p < s.length() && s.charAt(p) == ' ') {
            p++;
        }
    }

    private char look() {
        skip();
        if (p >= s.length()) {
            syntax();
        }
        return s.charAt(p);
    }

    private void want(char sign) {
        if (look() != sign) {
            syntax();
        }
        p++;
    }

    private boolean undefined(Type t) {
        if (t.kind == SHARED) {
            return types[t.a].kind != REC;
        }
        if (t.kind == POSS) {
            return "NTFLRC".indexOf(types[t.a].kind) < 0;
        }
        return t.kind == NO;
    }

    private static String beginsOf(char kind) {
        switch (kind) {
            case NUM:
                return "-0123456789";
            case TXT:
                return "\"";
            case FLAG:
                return "tf";
            case LIST:
                return "[";
            case REC:
            case CHOICE:
                return "{";
            default:
                return "";
        }
    }

    private void value(int slot, int parent, int name, int depth, boolean excess) {
        char c = look();
        if ("ntf-0123456789\"[{".indexOf(c) < 0) {
            syntax();
        }
        if (slot == UNTYPED) {
            bare(c, depth);
            return;
        }
        Type t = types[slot];
        int before = faults.size();
        if (undefined(t)) {
            add(p, TypedText.UNDEFINED);
        } else {
            int inner = t.kind == POSS || t.kind == SHARED ? t.a : slot;
            String begins = beginsOf(types[inner].kind) + (t.kind == POSS ? "n" : t.kind == SHARED ? "-0123456789" : "");
            if (begins.indexOf(c) < 0) {
                add(p, TypedText.TYPE);
            }
            if ("[{".indexOf(c) >= 0 && depth > 5) {
                add(p, TypedText.DEEP);
            }
            if (nodes.size() + 1 == 41) {
                add(p, TypedText.MANY);
            }
            if (excess) {
                add(p, TypedText.RANGE);
            }
            if (faults.size() == before) {
                typed(t.kind == SHARED && c != '{', inner, parent, name, depth);
                return;
            }
        }
        bare(c, depth);
    }

    private void bare(char c, int depth) {
        if (c == '"') {
            string(Integer.MAX_VALUE);
        } else if (c == '[') {
            list(UNTYPED, -1, depth);
        } else if (c == '{') {
            p++;
            if (look() != '}') {
                do {
                    if (look() != '"') {
                        syntax();
                    }
                    string(Integer.MAX_VALUE);
                    want(':');
                    value(UNTYPED, -1, -1, depth + 1, false);
                } while (comma('}'));
            } else {
                p++;
            }
        } else if (beginsOf(NUM).indexOf(c) >= 0) {
            number();
        } else {
            p++;
        }
    }

    /** True behind a comma, false behind the end. */
    private boolean comma(char end) {
        char c = look();
        if (c != ',' && c != end) {
            syntax();
        }
        p++;
        return c == ',';
    }

    private void typed(boolean reference, int slot, int parent, int name, int depth) {
        Node n = new Node();
        n.parent = parent;
        n.name = name;
        nodes.add(n);
        int index = nodes.size() - 1;
        Type t = types[slot];
        char c = s.charAt(p);
        if (c == 'n') {
            n.kind = 5;
            n.form = "n";
            p++;
        } else if (reference || t.kind == NUM) {
            n.kind = reference ? 6 : 0;
            String token = number();
            BigInteger units = units(token, reference ? 0 : t.a);
            long least = reference ? 0 : t.least;
            long most = reference ? complete[slot] - 1 : t.most;
            if (units == null || units.compareTo(BigInteger.valueOf(least)) < 0 || units.compareTo(BigInteger.valueOf(most)) > 0) {
                add(p - 1, TypedText.RANGE);
                units = BigInteger.ZERO;
            }
            n.value = units.intValue();
            n.form = plain(n.value, reference ? 0 : t.a);
        } else if (t.kind == TXT) {
            n.kind = 1;
            String chars = string(t.a);
            for (char sign : chars.toCharArray()) {
                n.value = n.value * 32 + Check.SIGNS.indexOf(sign);
            }
            n.form = "\"" + chars.replace("\\", "\\\\").replace("\"", "\\\"") + "\"";
        } else if (t.kind == FLAG) {
            n.kind = 2;
            n.value = c == 't' ? 1 : 0;
            n.form = "" + c;
            p++;
        } else if (t.kind == LIST) {
            n.kind = 3;
            n.isList = true;
            n.value = list(slot, index, depth);
        } else {
            n.kind = 4;
            members(slot, index, depth);
        }
    }

    private static String plain(int units, int decimals) {
        if (units == 0) {
            return "0";
        }
        return BigDecimal.valueOf(units, decimals).stripTrailingZeros().toPlainString();
    }

    private static BigInteger units(String token, int decimals) {
        int e = token.indexOf('e');
        BigDecimal digits = new BigDecimal(e < 0 ? token : token.substring(0, e));
        BigInteger power = e < 0 ? BigInteger.ZERO : new BigInteger(token.substring(e + 1));
        if (digits.signum() == 0) {
            return BigInteger.ZERO;
        }
        if (power.abs().compareTo(BigInteger.valueOf(500)) > 0) {
            return null;
        }
        try {
            return digits.scaleByPowerOfTen(power.intValue() + decimals).toBigIntegerExact();
        } catch (ArithmeticException notWhole) {
            return null;
        }
    }

    /** The longest piece with which some number begins; the text is cut if it is none itself. */
    private String number() {
        int end = p;
        while (end < s.length() && couldBeNumber(s.substring(p, end + 1))) {
            end++;
        }
        String token = s.substring(p, end);
        p = end;
        if (!NUMBER.matcher(token).matches()) {
            syntax();
        }
        return token;
    }

    private static boolean couldBeNumber(String piece) {
        Matcher m = NUMBER.matcher(piece);
        return m.matches() || m.hitEnd();
    }

    private String string(int most) {
        StringBuilder all = new StringBuilder();
        p++;
        while (true) {
            if (p >= s.length()) {
                syntax();
            }
            char c = s.charAt(p);
            if (c == '"') {
                p++;
                return all.toString();
            }
            if (c == '\\') {
                p++;
                if (p >= s.length() || s.charAt(p) != '"' && s.charAt(p) != '\\') {
                    syntax();
                }
                c = s.charAt(p);
            }
            all.append(c);
            if (all.length() == most + 1) {
                add(p, TypedText.RANGE);
            }
            p++;
        }
    }

    private int list(int slot, int index, int depth) {
        Type t = slot == UNTYPED ? null : types[slot];
        int count = 0;
        p++;
        if (look() == ']') {
            p++;
        } else {
            do {
                value(t == null ? UNTYPED : t.a, index, count, depth + 1, t != null && count >= t.most);
                count++;
            } while (comma(']'));
        }
        if (t != null && count < t.least) {
            add(p - 1, TypedText.RANGE);
        }
        return count;
    }

    private void members(int slot, int index, int depth) {
        Node n = nodes.get(index);
        Type t = types[slot];
        boolean choice = t.kind == CHOICE;
        int fieldsOf = choice ? -1 : slot;
        List<Integer> there = new ArrayList<>();
        n.value = complete[slot];
        p++;
        if (look() == '}') {
            if (choice) {
                add(p, TypedText.NAME);
            }
            p++;
        } else {
            do {
                if (look() != '"') {
                    syntax();
                }
                String name = string(Integer.MAX_VALUE);
                int quote = p - 1;
                int letter = name.length() == 1 ? "ABCDEF".indexOf(name) : -1;
                if (choice && n.tag < 0) {
                    if (letter != t.a) {
                        add(quote, TypedText.NAME);
                    }
                    there.add(t.a);
                    want(':');
                    fieldsOf = tag(n, t);
                } else {
                    int of = UNTYPED;
                    for (int[] f : types[fieldsOf].fields) {
                        of = f[0] == letter ? f[1] : of;
                    }
                    if (of == UNTYPED || there.contains(letter)) {
                        add(quote, TypedText.NAME);
                    }
                    there.add(letter);
                    want(':');
                    value(of, index, letter, depth + 1, false);
                }
            } while (comma('}'));
        }
        close(n, slot, fieldsOf, there);
    }

    private int tag(Node n, Type t) {
        char c = look();
        if ("ntf-0123456789\"[{".indexOf(c) < 0) {
            syntax();
        }
        if (beginsOf(NUM).indexOf(c) < 0) {
            add(p, TypedText.TYPE);
            throw new Cut();
        }
        BigInteger k = units(number(), 0);
        boolean right = k != null && k.signum() >= 0 && k.compareTo(BigInteger.valueOf(5)) <= 0;
        int of = right ? t.tags[k.intValue()] : -1;
        if (of < 0 || types[of].kind != REC) {
            add(p - 1, TypedText.RANGE);
            throw new Cut();
        }
        n.tag = k.intValue();
        n.choiceName = t.a;
        n.value = of;
        return of;
    }

    private void close(Node n, int slot, int fieldsOf, List<Integer> there) {
        n.order = new ArrayList<>();
        if (fieldsOf < 0) {
            return;
        }
        boolean whole = true;
        for (int[] f : types[fieldsOf].fields) {
            n.order.add(f[0]);
            whole &= f[2] == 0 || there.contains(f[0]);
        }
        if (!whole) {
            add(p - 1, TypedText.MISSING);
        } else if (n.tag < 0) {
            complete[slot]++;
        }
    }

    private String form(int index) {
        Node n = nodes.get(index);
        if (n.form != null) {
            return n.form;
        }
        List<String> parts = new ArrayList<>();
        if (n.tag >= 0) {
            parts.add("\"" + "ABCDEF".charAt(n.choiceName) + "\":" + n.tag);
        }
        for (int k = 0; k < (n.isList ? n.value : n.order.size()); k++) {
            int name = n.isList ? k : n.order.get(k);
            for (int child = 0; child < nodes.size(); child++) {
                if (nodes.get(child).parent == index && nodes.get(child).name == name) {
                    parts.add((n.isList ? "" : "\"" + "ABCDEF".charAt(name) + "\":") + form(child));
                }
            }
        }
        return (n.isList ? "[" : "{") + String.join(",", parts) + (n.isList ? "]" : "}");
    }
}
