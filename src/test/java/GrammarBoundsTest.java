/**
 * The characters, the text and the grammar of the document's terms, sentence by sentence: each boundary
 * case at the last text that is taken and at the first one that is not.
 */
public final class GrammarBoundsTest {
    private static final int NUMBER = 0, TEXT = 1, FLAG = 2, LIST = 3, RECORD = 4, NOTHING = 5, LISTS = 6;

    public static void main(String[] args) {
        everyCharacterAlone();
        everyCharacterInAString();
        textOf96();
        faultsAtTheTextsEnd();
        oneValue();
        words();
        minus();
        wholePart();
        fraction();
        power();
        everyCharacterInANumber();
        strings();
        backslashes();
        lists();
        records();
        spaces();
        noSpaces();
        syntaxPlace();
        Check.end();
    }

    private static TypedText types() {
        TypedText x = new TypedText();
        x.simple(NUMBER, 0, 4, Integer.MIN_VALUE, Integer.MAX_VALUE);
        x.simple(TEXT, 1, 40, 0, 0);
        x.simple(FLAG, 2, 0, 0, 0);
        x.list(LIST, NUMBER, 0, 20);
        x.members(RECORD, -1);
        x.field(RECORD, 0, NUMBER, false);
        x.field(RECORD, 1, TEXT, false);
        x.field(RECORD, 2, LIST, false);
        x.field(RECORD, 3, RECORD, false);
        x.wrap(NOTHING, 0, FLAG);
        x.list(LISTS, LISTS, 0, 20);
        return x;
    }

    private static void fine(int slot, String text) {
        Check.fault(types(), slot, text, TypedText.OK, -1);
    }

    private static void syntax(int slot, String text, int place) {
        Check.fault(types(), slot, text, TypedText.SYNTAX, place);
    }

    // ---- characters ----

    private static void everyCharacterAlone() {
        Check.sentence("CHARACTERS: 0..9 digits  10 {  11 }  12 [  13 ]  14 :  15 ,  16 \"  17 -  18 .  19 e  20 space ..");
        String due = "NNNNNNNNNN{x[xxx\"-xx xxxxxxnttxx";
        for (int c = 0; c < 32; c++) {
            TypedText x = types();
            x.put(c);
            boolean digit = due.charAt(c) == 'N';
            Check.same("number " + c, digit ? 0 : due.charAt(c) == 'x' || c == 17 || c == 20 ? 1 : 3, x.bind(NUMBER));
            Check.same("flag " + c, c == 28 || c == 29 ? 0 : due.charAt(c) == 'x' || c == 20 ? 1 : 3, x.bind(FLAG));
            Check.same("possible flag " + c, c >= 27 && c <= 29 ? 0 : due.charAt(c) == 'x' || c == 20 ? 1 : 3, x.bind(NOTHING));
            Check.same("text " + c, due.charAt(c) == 'x' || c == 20 || c == 16 ? 1 : 3, x.bind(TEXT));
            Check.same("list " + c, due.charAt(c) == 'x' || c == 20 || c == 12 ? 1 : 3, x.bind(LIST));
            Check.same("record " + c, due.charAt(c) == 'x' || c == 20 || c == 10 ? 1 : 3, x.bind(RECORD));
        }
    }

    private static void everyCharacterInAString() {
        Check.sentence("string = \" { any but \" and \\ | \\ followed by \" or \\ } \"");
        for (int c = 0; c < 32; c++) {
            if (c != 16 && c != 30) {
                String sign = Check.SIGNS.substring(c, c + 1);
                Check.nodes(types(), TEXT, "\"" + sign + "\"", "1/" + c + "/-1/-1");
                Check.prints(types(), TEXT, "\"" + sign + "\"", "\"" + sign + "\"");
                syntax(TEXT, "\"\\" + sign + "\"", 2);
            }
        }
    }

    // ---- the text ----

    private static void textOf96() {
        Check.sentence("The TEXT has at most 96.");
        for (int length = 93; length <= 96; length++) {
            Check.nodes(types(), NUMBER, "7" + " ".repeat(length - 1), "0/70000/-1/-1");
            Check.nodes(types(), NUMBER, " ".repeat(length - 1) + "7", "0/70000/-1/-1");
            Check.nodes(types(), NUMBER, "0." + "0".repeat(length - 6) + "7e" + (length - 5), "0/70000/-1/-1");
            Check.nodes(types(), NUMBER, "7" + "0".repeat(length - 5) + "e-" + (length - 5), "0/70000/-1/-1");
        }
        TypedText x = types();
        Check.write(x, " ".repeat(95) + "7");
        Check.same("a 97th character", false, x.put(7));
        Check.same("bind", TypedText.OK, x.bind(NUMBER));
        Check.same("units", 70000, x.node(0, 1));
    }

    private static void faultsAtTheTextsEnd() {
        Check.sentence("SYNTAX: .. or the length if the end is missing");
        for (int length = 0; length <= 96; length++) {
            syntax(NUMBER, " ".repeat(length), length);
        }
        syntax(NUMBER, " ".repeat(95) + "-", 96);
        syntax(NUMBER, " ".repeat(95) + "}", 95);
        syntax(NUMBER, "1" + " ".repeat(94) + "1", 95);
        syntax(TEXT, " ".repeat(95) + "\"", 96);
        syntax(TEXT, " ".repeat(94) + "\"\\", 96);
        syntax(LIST, " ".repeat(95) + "[", 96);
        syntax(RECORD, " ".repeat(95) + "{", 96);
        syntax(LIST, "[1" + ",1".repeat(19) + " ".repeat(56), 96);
    }

    // ---- values ----

    private static void oneValue() {
        Check.sentence("A text is one value.");
        syntax(NUMBER, "", 0);
        fine(NUMBER, "1");
        syntax(NUMBER, "1 1", 2);
        syntax(NUMBER, "1,1", 1);
        syntax(FLAG, "tf", 1);
        syntax(TEXT, "\"\"\"\"", 2);
        syntax(LIST, "[][]", 2);
        syntax(LIST, "[]]", 2);
        syntax(RECORD, "{}{}", 2);
        syntax(RECORD, "{}}", 2);
        syntax(RECORD, "{}:", 2);
        syntax(RECORD, "{},", 2);
    }

    private static void words() {
        Check.sentence("n is nothing, t true, f false.");
        Check.nodes(types(), NOTHING, "n", "5/0/-1/-1");
        Check.nodes(types(), NOTHING, "t", "2/1/-1/-1");
        Check.nodes(types(), NOTHING, "f", "2/0/-1/-1");
        syntax(NOTHING, "nn", 1);
        syntax(NOTHING, "nt", 1);
        syntax(NOTHING, "A", 0);
    }

    // ---- numbers ----

    private static void minus() {
        Check.sentence("number = [ - ] ( 0 | 1..9 { digit } )");
        Check.nodes(types(), NUMBER, "1", "0/10000/-1/-1");
        Check.nodes(types(), NUMBER, "-1", "0/-10000/-1/-1");
        Check.nodes(types(), NUMBER, "-0", "0/0/-1/-1");
        syntax(NUMBER, "--1", 1);
        syntax(NUMBER, "+1", 0);
        syntax(NUMBER, "-+1", 1);
        syntax(NUMBER, "-", 1);
        syntax(NUMBER, "-.1", 1);
        syntax(NUMBER, "-e1", 1);
        syntax(NUMBER, "1-", 1);
        syntax(NUMBER, "1+1", 1);
    }

    private static void wholePart() {
        Check.sentence("( 0 | 1..9 { digit } )");
        for (int digit = 0; digit <= 9; digit++) {
            Check.nodes(types(), NUMBER, "" + digit, "0/" + digit * 10000 + "/-1/-1");
            syntax(NUMBER, "0" + digit, 1);
            syntax(NUMBER, "-0" + digit, 2);
            if (digit > 0) {
                Check.nodes(types(), NUMBER, digit + "0", "0/" + digit * 100000 + "/-1/-1");
                Check.nodes(types(), NUMBER, digit + "9", "0/" + (digit * 100000 + 90000) + "/-1/-1");
            }
        }
        syntax(NUMBER, "00.1", 1);
        syntax(NUMBER, "00e1", 1);
    }

    private static void fraction() {
        Check.sentence("[ . digit { digit } ]");
        syntax(NUMBER, ".1", 0);
        syntax(NUMBER, "1.", 2);
        syntax(NUMBER, "1.e1", 2);
        syntax(NUMBER, "1..1", 2);
        syntax(NUMBER, "1.-1", 2);
        syntax(NUMBER, "1.1.1", 3);
        for (int digit = 0; digit <= 9; digit++) {
            Check.nodes(types(), NUMBER, "0." + digit, "0/" + digit * 1000 + "/-1/-1");
            Check.nodes(types(), NUMBER, "1.0" + digit, "0/" + (10000 + digit * 100) + "/-1/-1");
        }
        fine(NUMBER, "0.00");
        fine(NUMBER, "1." + "0".repeat(94));
    }

    private static void power() {
        Check.sentence("[ e [ - | + ] digit { digit } ]");
        syntax(NUMBER, "e1", 0);
        syntax(NUMBER, "1e", 2);
        syntax(NUMBER, "1e-", 3);
        syntax(NUMBER, "1e+", 3);
        syntax(NUMBER, "1e--1", 3);
        syntax(NUMBER, "1e+-1", 3);
        syntax(NUMBER, "1e++1", 3);
        syntax(NUMBER, "1ee1", 2);
        syntax(NUMBER, "1e.1", 2);
        syntax(NUMBER, "1e1e1", 3);
        syntax(NUMBER, "1e1.0", 3);
        syntax(NUMBER, "1e1-", 3);
        syntax(NUMBER, "1e1+", 3);
        int units = 1;
        for (int power = 1; power <= 9; power++) {
            Check.nodes(types(), NUMBER, "0.00001e" + power, "0/" + units + "/-1/-1");
            Check.nodes(types(), NUMBER, "0.00001e+" + power, "0/" + units + "/-1/-1");
            Check.nodes(types(), NUMBER, "0.00001e0" + power, "0/" + units + "/-1/-1");
            Check.nodes(types(), NUMBER, "1" + "0".repeat(power) + "e-" + power, "0/10000/-1/-1");
            units *= 10;
        }
        Check.nodes(types(), NUMBER, "1e0", "0/10000/-1/-1");
        Check.nodes(types(), NUMBER, "1e-0", "0/10000/-1/-1");
        Check.nodes(types(), NUMBER, "1e+0", "0/10000/-1/-1");
        Check.nodes(types(), NUMBER, "1e" + "0".repeat(93) + "1", "0/100000/-1/-1");
        Check.nodes(types(), NUMBER, "1e-" + "0".repeat(92) + "1", "0/1000/-1/-1");
    }

    /** What may stand behind each beginning of a number: all that goes on, spaces that end it, and nothing else. */
    private static void everyCharacterInANumber() {
        Check.sentence("number = [ - ] ( 0 | 1..9 { digit } ) [ . digit { digit } ] [ e [ - | + ] digit { digit } ]");
        String digits = "0123456789";
        String[][] next = {{"-", digits}, {"0", ".e "}, {"-0", ".e "}, {"1", digits + ".e "}, {"1.", digits},
            {"1.0", digits + "e "}, {"0e", digits + "-+"}, {"0e-", digits}, {"0e+", digits}, {"0e1", digits + " "}};
        for (String[] pair : next) {
            for (int c = 0; c < 32; c++) {
                char sign = Check.SIGNS.charAt(c);
                if (pair[1].indexOf(sign) < 0) {
                    syntax(NUMBER, pair[0] + sign, pair[0].length());
                } else if (".e-+".indexOf(sign) >= 0) {
                    syntax(NUMBER, pair[0] + sign, pair[0].length() + 1);
                } else {
                    fine(NUMBER, pair[0] + sign);
                }
            }
        }
    }

    // ---- strings ----

    private static void strings() {
        Check.sentence("A string's CHARACTERS are those between its ends");
        Check.nodes(types(), TEXT, "\"\"", "1/0/-1/-1");
        Check.nodes(types(), TEXT, "\" \"", "1/20/-1/-1");
        Check.nodes(types(), TEXT, " \"1 \" ", "1/" + (1 * 32 + 20) + "/-1/-1");
        syntax(TEXT, "\"", 1);
        syntax(TEXT, "\"A", 2);
        syntax(TEXT, "\"\"A", 2);
        syntax(TEXT, "\"A\"\"", 3);
        fine(TEXT, "\"" + "A".repeat(40) + "\"");
    }

    private static void backslashes() {
        Check.sentence("of \\ and what follows the latter");
        Check.nodes(types(), TEXT, "\"\\\"\"", "1/16/-1/-1");
        Check.nodes(types(), TEXT, "\"\\\\\"", "1/30/-1/-1");
        Check.nodes(types(), TEXT, "\"\\\\\\\"\"", "1/" + (30 * 32 + 16) + "/-1/-1");
        Check.nodes(types(), TEXT, "\"\\\\A\"", "1/" + (30 * 32 + 21) + "/-1/-1");
        syntax(TEXT, "\"\\\"", 3);
        syntax(TEXT, "\"\\\\\\\"", 5);
        syntax(TEXT, "\"\\", 2);
        syntax(TEXT, "\\\"\"", 0);
        syntax(TEXT, "\"\\\\\"\"", 4);
    }

    // ---- lists and records ----

    private static void lists() {
        Check.sentence("value = .. \"[\" [ value { , value } ] \"]\"");
        fine(LIST, "[]");
        fine(LIST, "[1]");
        fine(LIST, "[1,2]");
        fine(LIST, "[1" + ",2".repeat(19) + "]");
        syntax(LIST, "[", 1);
        syntax(LIST, "[,]", 1);
        syntax(LIST, "[1", 2);
        syntax(LIST, "[1,", 3);
        syntax(LIST, "[1,]", 3);
        syntax(LIST, "[1,,1]", 3);
        syntax(LIST, "[1 1]", 3);
        syntax(LIST, "[1:1]", 2);
        syntax(LIST, "[1}", 2);
        syntax(LIST, "[}", 1);
        syntax(LIST, "]", 0);
        syntax(LISTS, "[[]", 3);
        syntax(LISTS, "[[][]]", 3);
        syntax(LISTS, "[[],]", 4);
        fine(LISTS, "[[],[[]]]");
    }

    private static void records() {
        Check.sentence("value = .. \"{\" [ string : value { , string : value } ] \"}\"");
        fine(RECORD, "{}");
        fine(RECORD, "{'A':1}");
        fine(RECORD, "{'A':1,'B':'A'}");
        fine(RECORD, "{'A':1,'B':'A','C':[],'D':{}}");
        syntax(RECORD, "{", 1);
        syntax(RECORD, "{,}", 1);
        syntax(RECORD, "{A", 1);
        syntax(RECORD, "{1", 1);
        syntax(RECORD, "{]", 1);
        syntax(RECORD, "}", 0);
        syntax(RECORD, "{'A'", 4);
        syntax(RECORD, "{'A'}", 4);
        syntax(RECORD, "{'A',", 4);
        syntax(RECORD, "{'A'1", 4);
        syntax(RECORD, "{'A':", 5);
        syntax(RECORD, "{'A':}", 5);
        syntax(RECORD, "{'A'::", 5);
        syntax(RECORD, "{'A':,", 5);
        syntax(RECORD, "{'A':1", 6);
        syntax(RECORD, "{'A':1]", 6);
        syntax(RECORD, "{'A':1:", 6);
        syntax(RECORD, "{'A':1 1", 7);
        syntax(RECORD, "{'A':1,", 7);
        syntax(RECORD, "{'A':1,}", 7);
        syntax(RECORD, "{'A':1,,", 7);
        syntax(RECORD, "{'A':1'B':'A'}", 6);
        syntax(RECORD, "{'D':{}", 7);
        syntax(RECORD, "{'D':{]", 6);
    }

    // ---- spaces ----

    private static void spaces() {
        Check.sentence("spaces may stand before and behind each part of it, n, t, f, numbers and strings being parts");
        String[] parts = {"{", "'A'", ":", "-1.5e0", ",", "'B'", ":", "'A'", ",", "'C'", ":", "[", "1", ",", "0", "]", "}"};
        String bare = String.join("", parts);
        for (int count = 1; count <= 3; count += 2) {
            for (int k = 0; k <= parts.length; k++) {
                StringBuilder text = new StringBuilder();
                for (int part = 0; part < parts.length; part++) {
                    text.append(part == k ? " ".repeat(count) : "").append(parts[part]);
                }
                text.append(k == parts.length ? " ".repeat(count) : "");
                Check.prints(types(), RECORD, text.toString(), bare.replace("-1.5e0", "-1.5"));
            }
        }
        Check.prints(types(), RECORD, " " + String.join(" ", parts) + " ", bare.replace("-1.5e0", "-1.5"));
        String[] values = {"n", "t", "f"};
        for (String value : values) {
            fine(NOTHING, " " + value);
            fine(NOTHING, value + " ");
        }
        fine(LIST, "[ ]");
        fine(RECORD, "{ }");
    }

    private static void noSpaces() {
        Check.sentence("spaces may stand before and behind each part of it, .. numbers and strings being parts");
        String number = "-12.34e-0";
        fine(NUMBER, number);
        for (int k = 1; k < number.length(); k++) {
            // Behind a digit the number could end, so the space is right and what follows it is not.
            boolean couldEnd = Character.isDigit(number.charAt(k - 1));
            syntax(NUMBER, number.substring(0, k) + " " + number.substring(k), couldEnd ? k + 1 : k);
        }
        // In a string a space is a character, also behind \.
        syntax(TEXT, "\"\\ \"\"", 2);
        Check.fault(types(), RECORD, "{'A ':1}", TypedText.NAME, 4);
        Check.fault(types(), RECORD, "{' A':1}", TypedText.NAME, 4);
    }

    // ---- the place of SYNTAX ----

    /** Each beginning of a text is missing its end; each character behind what is whole is the fault. */
    private static void syntaxPlace() {
        Check.sentence("SYNTAX: the first character such that no text begins with what goes up to it and with it");
        String text = "{'A':-1.5e0,'B':'A\\\\','C':[1,0],'D':{}}";
        fine(RECORD, text);
        for (int k = 0; k < text.length(); k++) {
            syntax(RECORD, text.substring(0, k), k);
            syntax(RECORD, text.substring(0, k) + " ".repeat(2), cutPlace(text, k));
        }
        for (int c = 0; c < 32; c++) {
            if (c != 20) {
                syntax(RECORD, text + Check.SIGNS.charAt(c), text.length());
                syntax(RECORD, text + "  " + Check.SIGNS.charAt(c), text.length() + 2);
            }
        }
    }

    /** With two spaces behind the first k: the first of them is wrong inside a number or behind \, else the end is missing. */
    private static int cutPlace(String text, int k) {
        char last = k == 0 ? ' ' : text.charAt(k - 1);
        boolean afterOneBackslash = last == '\\' && text.charAt(k - 2) != '\\';
        boolean wrong = last == '-' || last == '.' || last == 'e' || afterOneBackslash;
        return wrong ? k : k + 2;
    }
}
