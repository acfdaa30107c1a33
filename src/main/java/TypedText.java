public final class TypedText {
    public static final int OK = 0, SYNTAX = 1, UNDEFINED = 2, TYPE = 3, DEEP = 4, MANY = 5, RANGE = 6, NAME = 7, MISSING = 8;

    private static final int TEXT_MOST = 96;
    private static final int CHARACTERS = 32;
    private static final int SLOTS = 12;
    private static final int NAMES = 6;
    private static final int TAGS = 6;
    private static final int FIELDS_MOST = 4;
    private static final int FIELD_ROOM = SLOTS * FIELDS_MOST;
    private static final int TAG_ROOM = SLOTS * TAGS;
    private static final int DECIMALS_MOST = 4;
    private static final int STRING_MOST = 40;
    private static final int ELEMENTS_MOST = 20;
    private static final int NODES_MOST = 40;
    private static final int LEVELS = 6;
    private static final int PRINTED_MOST = 192;

    private static final int NONE = -1;
    // Beyond every int, so that a number without whole units is out of every range.
    private static final long NOT_WHOLE = 1L << 40;
    // An int has ten digits: no digit that counts stands above the tenth.
    private static final int HIGHEST_DIGIT = 9;
    // Far above what 96 characters can make up for, far below where an int wraps.
    private static final int POWER_MOST = 100000;

    private static final int OPEN_BRACE = 10, CLOSE_BRACE = 11, OPEN_BRACKET = 12, CLOSE_BRACKET = 13;
    private static final int COLON = 14, COMMA = 15, QUOTE = 16, MINUS = 17, POINT = 18, LETTER_E = 19, SPACE = 20;
    private static final int FIRST_NAME = 21, LETTER_N = 27, LETTER_T = 28, LETTER_F = 29, BACKSLASH = 30, PLUS = 31;

    // The wrapped types are those from POSSIBLE_TYPE on.
    private static final int NO_TYPE = 0, NUMBER_TYPE = 1, TEXT_TYPE = 2, FLAG_TYPE = 3, LIST_TYPE = 4;
    private static final int RECORD_TYPE = 5, CHOICE_TYPE = 6, POSSIBLE_TYPE = 7, SHARED_TYPE = 8;

    private static final int NUMBER_NODE = 0, TEXT_NODE = 1, FLAG_NODE = 2, LIST_NODE = 3;
    private static final int RECORD_NODE = 4, NOTHING_NODE = 5, REFERENCE_NODE = 6;

    // What the reader stands at or in; those from BEHIND_MINUS on are inside a number.
    private static final int AT_VALUE = 0, AT_FIRST_ELEMENT = 1, BEHIND_VALUE = 2, AT_FIRST_MEMBER = 3, AT_MEMBER = 4;
    private static final int AT_COLON = 5, IN_NAME = 6, IN_TEXT = 7;
    private static final int BEHIND_MINUS = 8, IN_ZERO = 9, IN_WHOLE = 10, BEHIND_POINT = 11, IN_FRACTION = 12;
    private static final int BEHIND_E = 13, BEHIND_POWER_SIGN = 14, IN_POWER = 15;

    private final int[] text = new int[TEXT_MOST];
    private int length = 0;

    private final int[] typeKind = new int[SLOTS];
    // Decimals of a number, room of a text, slot of elements or of what is wrapped, name of a choice.
    private final int[] typeDetail = new int[SLOTS];
    private final int[] typeLeast = new int[SLOTS];
    private final int[] typeMost = new int[SLOTS];
    private final int[] fieldCount = new int[SLOTS];
    private final int[] fieldName = new int[FIELD_ROOM];
    private final int[] fieldType = new int[FIELD_ROOM];
    private final boolean[] fieldNeeded = new boolean[FIELD_ROOM];
    private final int[] tagType = new int[TAG_ROOM];

    private final int[] nodeKind = new int[NODES_MOST];
    private final int[] nodeValue = new int[NODES_MOST];
    private final int[] nodeParent = new int[NODES_MOST];
    private final int[] nodeName = new int[NODES_MOST];
    // The slot of its type, for a wrapped one of the type inside.
    private final int[] nodeSlot = new int[NODES_MOST];
    private final int[] nodeStart = new int[NODES_MOST];
    private final int[] nodeTag = new int[NODES_MOST];
    private int nodeCount = 0;
    private boolean bound = false;

    private int fault = OK;
    private int faultPlace = NONE;
    private int mode = AT_VALUE;
    private int at = 0;
    private int tokenStart = 0;
    private int textCount = 0;
    private boolean escaped = false;
    private int valueSlot = 0;
    private int valueName = NONE;
    private final int[] completeCount = new int[SLOTS];

    // The lists and records that are open, while a text is read and while it is printed.
    private int depth = 0;
    private final int[] openNode = new int[LEVELS];
    // Slot of the list, or of the record whose fields may stand; NONE in a choice before its tag.
    private final int[] openSlot = new int[LEVELS];
    private final int[] openNames = new int[LEVELS];
    private final int[] openNext = new int[LEVELS];
    private final boolean[] openComma = new boolean[LEVELS];

    private final int[] output = new int[PRINTED_MOST];
    private int outputLength = 0;

    public TypedText() {
    }

    public boolean put(int c) {
        if (c < 0 || c >= CHARACTERS || length >= TEXT_MOST) {
            return false;
        }
        text[length] = c;
        length++;
        bound = false;
        return true;
    }

    public int wipe() {
        int old = length;
        length = 0;
        bound = false;
        return old;
    }

    public boolean simple(int slot, int what, int a, int b, int c) {
        if (!isSlot(slot)) {
            return false;
        }
        if (what == 0 && a >= 0 && a <= DECIMALS_MOST && b <= c) {
            setType(slot, NUMBER_TYPE, a, b, c);
            return true;
        }
        if (what == 1 && a >= 0 && a <= STRING_MOST) {
            setType(slot, TEXT_TYPE, a, 0, 0);
            return true;
        }
        if (what == 2) {
            setType(slot, FLAG_TYPE, 0, 0, 0);
            return true;
        }
        return false;
    }

    public boolean list(int slot, int of, int least, int most) {
        if (!isSlot(slot) || !isSlot(of) || least < 0 || least > most || most > ELEMENTS_MOST) {
            return false;
        }
        setType(slot, LIST_TYPE, of, least, most);
        return true;
    }

    public boolean members(int slot, int name) {
        if (!isSlot(slot) || name < NONE || name >= NAMES) {
            return false;
        }
        int kind = name == NONE ? RECORD_TYPE : CHOICE_TYPE;
        setType(slot, kind, name, 0, 0);
        fieldCount[slot] = 0;
        for (int k = 0; k < TAGS; k++) {
            tagType[slot * TAGS + k] = NONE;
        }
        return true;
    }

    public boolean field(int slot, int name, int of, boolean needed) {
        if (!isSlot(slot) || !isSlot(of) || name < 0 || name >= NAMES) {
            return false;
        }
        if (typeKind[slot] != RECORD_TYPE || fieldCount[slot] >= FIELDS_MOST) {
            return false;
        }
        if (findField(slot, name) != NONE) {
            return false;
        }
        int entry = slot * FIELDS_MOST + fieldCount[slot];
        fieldName[entry] = name;
        fieldType[entry] = of;
        fieldNeeded[entry] = needed;
        fieldCount[slot]++;
        bound = false;
        return true;
    }

    public boolean tag(int slot, int tag, int of) {
        if (!isSlot(slot) || !isSlot(of) || tag < 0 || tag >= TAGS) {
            return false;
        }
        if (typeKind[slot] != CHOICE_TYPE) {
            return false;
        }
        tagType[slot * TAGS + tag] = of;
        bound = false;
        return true;
    }

    public boolean wrap(int slot, int how, int of) {
        if (!isSlot(slot) || !isSlot(of) || how < 0 || how > 1) {
            return false;
        }
        int kind = how == 0 ? POSSIBLE_TYPE : SHARED_TYPE;
        setType(slot, kind, of, 0, 0);
        return true;
    }

    public int bind(int slot) {
        startBinding(slot);
        if (!isSlot(slot)) {
            fail(UNDEFINED, 0);
        }
        for (int k = 0; k < length && fault == OK; k++) {
            at = k;
            readCharacter(text[k]);
        }
        if (fault == OK) {
            at = length;
            readEnd();
        }
        bound = fault == OK;
        return fault;
    }

    public int place() {
        return faultPlace;
    }

    public int nodes() {
        return bound ? nodeCount : 0;
    }

    public int node(int k, int what) {
        if (!bound || k < 0 || k >= nodeCount) {
            return NONE;
        }
        switch (what) {
            case 0:
                return nodeKind[k];
            case 1:
                return nodeValue[k];
            case 2:
                return nodeParent[k];
            case 3:
                return nodeName[k];
            default:
                return NONE;
        }
    }

    public int print() {
        outputLength = 0;
        if (!bound) {
            return 0;
        }
        depth = 0;
        writeNode(0);
        // Each step begins a node or closes one.
        for (int k = 0; k < 2 * NODES_MOST && depth > 0; k++) {
            int child = nextChild();
            if (child == NONE) {
                writeClose();
            } else {
                writeLead(child);
                writeNode(child);
            }
        }
        return outputLength;
    }

    public int printed(int k) {
        if (k < 0 || k >= outputLength || k >= PRINTED_MOST) {
            return NONE;
        }
        return output[k];
    }

    // ---- types ----

    private static boolean isSlot(int slot) {
        return slot >= 0 && slot < SLOTS;
    }

    private void setType(int slot, int kind, int detail, int least, int most) {
        typeKind[slot] = kind;
        typeDetail[slot] = detail;
        typeLeast[slot] = least;
        typeMost[slot] = most;
        bound = false;
    }

    private int findField(int slot, int name) {
        for (int k = 0; k < fieldCount[slot]; k++) {
            int entry = slot * FIELDS_MOST + k;
            if (fieldName[entry] == name) {
                return entry;
            }
        }
        return NONE;
    }

    private int slotInside(int slot) {
        return typeKind[slot] >= POSSIBLE_TYPE ? typeDetail[slot] : slot;
    }

    private boolean isDefined(int slot) {
        int inside = typeKind[slotInside(slot)];
        if (typeKind[slot] == SHARED_TYPE) {
            return inside == RECORD_TYPE;
        }
        return inside != NO_TYPE && inside < POSSIBLE_TYPE;
    }

    // ---- reading: one step for each character ----

    private void startBinding(int slot) {
        fault = OK;
        faultPlace = NONE;
        mode = AT_VALUE;
        depth = 0;
        nodeCount = 0;
        valueSlot = slot;
        valueName = NONE;
        for (int k = 0; k < SLOTS; k++) {
            completeCount[k] = 0;
        }
    }

    private void fail(int code, int where) {
        fault = code;
        faultPlace = where;
    }

    private void readCharacter(int c) {
        if (mode >= BEHIND_MINUS) {
            int next = nextNumberMode(mode, c);
            if (next != NONE) {
                mode = next;
                return;
            }
            // Only now is the number's end known; its fault lies before that of c.
            endNumber();
        }
        if (fault != OK) {
            return;
        }
        if (mode == IN_NAME || mode == IN_TEXT) {
            readStringCharacter(c);
        } else if (c == SPACE) {
            return;
        } else if (mode == AT_FIRST_ELEMENT && c == CLOSE_BRACKET) {
            closeList();
        } else if (mode == AT_VALUE || mode == AT_FIRST_ELEMENT) {
            beginValue(c);
        } else if (mode == AT_FIRST_MEMBER && c == CLOSE_BRACE) {
            closeRecord();
        } else if ((mode == AT_FIRST_MEMBER || mode == AT_MEMBER) && c == QUOTE) {
            enterString(IN_NAME);
        } else if (mode == AT_COLON && c == COLON) {
            mode = AT_VALUE;
        } else if (mode == BEHIND_VALUE && depth > 0) {
            readBehindMember(c);
        } else {
            fail(SYNTAX, at);
        }
    }

    private void readBehindMember(int c) {
        boolean inList = isInList();
        if (inList && c == COMMA) {
            mode = AT_VALUE;
        } else if (inList && c == CLOSE_BRACKET) {
            closeList();
        } else if (!inList && c == COMMA) {
            mode = AT_MEMBER;
        } else if (!inList && c == CLOSE_BRACE) {
            closeRecord();
        } else {
            fail(SYNTAX, at);
        }
    }

    private void readEnd() {
        if (mode >= BEHIND_MINUS) {
            endNumber();
        }
        if (fault == OK && (mode != BEHIND_VALUE || depth > 0)) {
            fail(SYNTAX, length);
        }
    }

    // ---- reading: values ----

    private static boolean beginsNumber(int c) {
        return c == MINUS || c <= 9;
    }

    private static boolean beginsAnyValue(int c) {
        return beginsNumber(c) || c == QUOTE || c == OPEN_BRACE || c == OPEN_BRACKET
                || c == LETTER_N || c == LETTER_T || c == LETTER_F;
    }

    private boolean isInList() {
        return depth > 0 && nodeKind[openNode[depth - 1]] == LIST_NODE;
    }

    private boolean isAtTag() {
        return depth > 0 && openSlot[depth - 1] == NONE;
    }

    private void beginValue(int c) {
        if (!beginsAnyValue(c)) {
            fail(SYNTAX, at);
        } else if (isAtTag()) {
            beginTag(c);
        } else {
            if (isInList()) {
                expectElement();
            }
            int kind = kindBegun(valueSlot, c);
            int code = faultAtBeginning(kind);
            if (code == OK) {
                addNode(kind);
                enterValue(kind, c);
            } else {
                fail(code, at);
            }
        }
    }

    private void beginTag(int c) {
        if (beginsNumber(c)) {
            enterNumber(c);
        } else {
            fail(TYPE, at);
        }
    }

    private int kindBegun(int slot, int c) {
        if (typeKind[slot] == POSSIBLE_TYPE && c == LETTER_N) {
            return NOTHING_NODE;
        }
        if (typeKind[slot] == SHARED_TYPE && beginsNumber(c)) {
            return REFERENCE_NODE;
        }
        switch (typeKind[slotInside(slot)]) {
            case NUMBER_TYPE:
                return beginsNumber(c) ? NUMBER_NODE : NONE;
            case TEXT_TYPE:
                return c == QUOTE ? TEXT_NODE : NONE;
            case FLAG_TYPE:
                return c == LETTER_T || c == LETTER_F ? FLAG_NODE : NONE;
            case LIST_TYPE:
                return c == OPEN_BRACKET ? LIST_NODE : NONE;
            default:
                return c == OPEN_BRACE ? RECORD_NODE : NONE;
        }
    }

    private int faultAtBeginning(int kind) {
        if (!isDefined(valueSlot)) {
            return UNDEFINED;
        }
        if (kind == NONE) {
            return TYPE;
        }
        if (depth >= LEVELS && (kind == LIST_NODE || kind == RECORD_NODE)) {
            return DEEP;
        }
        if (nodeCount >= NODES_MOST) {
            return MANY;
        }
        if (isInList() && valueName >= typeMost[openSlot[depth - 1]]) {
            return RANGE;
        }
        return OK;
    }

    private void addNode(int kind) {
        int parent = depth > 0 ? openNode[depth - 1] : NONE;
        if (isInList()) {
            nodeValue[parent]++;
        }
        nodeKind[nodeCount] = kind;
        nodeValue[nodeCount] = 0;
        nodeParent[nodeCount] = parent;
        nodeName[nodeCount] = valueName;
        nodeSlot[nodeCount] = slotInside(valueSlot);
        nodeStart[nodeCount] = at;
        nodeTag[nodeCount] = NONE;
        nodeCount++;
    }

    private void enterValue(int kind, int c) {
        switch (kind) {
            case NUMBER_NODE:
            case REFERENCE_NODE:
                enterNumber(c);
                break;
            case TEXT_NODE:
                enterString(IN_TEXT);
                break;
            case FLAG_NODE:
                nodeValue[nodeCount - 1] = c == LETTER_T ? 1 : 0;
                mode = BEHIND_VALUE;
                break;
            case LIST_NODE:
                enterList();
                break;
            case RECORD_NODE:
                enterRecord();
                break;
            default:
                mode = BEHIND_VALUE;
                break;
        }
    }

    private void enterNumber(int c) {
        tokenStart = at;
        if (c == MINUS) {
            mode = BEHIND_MINUS;
        } else {
            mode = c == 0 ? IN_ZERO : IN_WHOLE;
        }
    }

    // ---- reading: lists and records ----

    private void enterList() {
        openNode[depth] = nodeCount - 1;
        openSlot[depth] = nodeSlot[nodeCount - 1];
        depth++;
        mode = AT_FIRST_ELEMENT;
    }

    private void expectElement() {
        valueSlot = typeDetail[openSlot[depth - 1]];
        valueName = nodeValue[openNode[depth - 1]];
    }

    private void closeList() {
        int level = depth - 1;
        if (nodeValue[openNode[level]] < typeLeast[openSlot[level]]) {
            fail(RANGE, at);
        }
        depth = level;
        mode = BEHIND_VALUE;
    }

    private void enterRecord() {
        int node = nodeCount - 1;
        int slot = nodeSlot[node];
        boolean isChoice = typeKind[slot] == CHOICE_TYPE;
        openNode[depth] = node;
        openSlot[depth] = isChoice ? NONE : slot;
        // A field of the choice's name counts as there already.
        openNames[depth] = isChoice ? 1 << typeDetail[slot] : 0;
        nodeValue[node] = completeCount[slot];
        depth++;
        mode = AT_FIRST_MEMBER;
    }

    private void closeRecord() {
        int level = depth - 1;
        int slot = openSlot[level];
        if (slot == NONE) {
            fail(NAME, at);
            return;
        }
        for (int k = 0; k < fieldCount[slot]; k++) {
            int entry = slot * FIELDS_MOST + k;
            if (fieldNeeded[entry] && (openNames[level] & (1 << fieldName[entry])) == 0) {
                fail(MISSING, at);
                return;
            }
        }
        if (nodeTag[openNode[level]] == NONE) {
            completeCount[slot]++;
        }
        depth = level;
        mode = BEHIND_VALUE;
    }

    // ---- reading: strings ----

    private void enterString(int stringMode) {
        mode = stringMode;
        tokenStart = at;
        textCount = 0;
        escaped = false;
    }

    private void readStringCharacter(int c) {
        if (!escaped && c == BACKSLASH) {
            escaped = true;
        } else if (!escaped && c == QUOTE && mode == IN_TEXT) {
            mode = BEHIND_VALUE;
        } else if (!escaped && c == QUOTE) {
            endName();
        } else if (escaped && c != QUOTE && c != BACKSLASH) {
            fail(SYNTAX, at);
        } else {
            escaped = false;
            if (mode == IN_TEXT) {
                addTextCharacter(c);
            }
        }
    }

    private void addTextCharacter(int c) {
        int node = nodeCount - 1;
        if (textCount >= typeDetail[nodeSlot[node]]) {
            fail(RANGE, at);
            return;
        }
        textCount++;
        nodeValue[node] = 32 * nodeValue[node] + c;
    }

    private void endName() {
        int level = depth - 1;
        int slot = openSlot[level];
        // What \ stands before is no letter, so a name that is right has one character between its ends.
        int name = at - tokenStart == 2 ? text[at - 1] - FIRST_NAME : NONE;
        mode = AT_COLON;
        if (name < 0 || name >= NAMES) {
            fail(NAME, at);
        } else if (slot == NONE) {
            if (name != typeDetail[nodeSlot[openNode[level]]]) {
                fail(NAME, at);
            }
        } else {
            int entry = findField(slot, name);
            if (entry == NONE || (openNames[level] & (1 << name)) != 0) {
                fail(NAME, at);
                return;
            }
            openNames[level] |= 1 << name;
            valueSlot = fieldType[entry];
            valueName = name;
        }
    }

    // ---- reading: numbers ----

    private static int nextNumberMode(int now, int c) {
        boolean digit = c <= 9;
        switch (now) {
            case BEHIND_MINUS:
                if (digit) {
                    return c == 0 ? IN_ZERO : IN_WHOLE;
                }
                return NONE;
            case IN_ZERO:
            case IN_WHOLE:
                if (digit) {
                    return now == IN_WHOLE ? IN_WHOLE : NONE;
                }
                if (c == POINT) {
                    return BEHIND_POINT;
                }
                return c == LETTER_E ? BEHIND_E : NONE;
            case BEHIND_POINT:
                return digit ? IN_FRACTION : NONE;
            case IN_FRACTION:
                if (digit) {
                    return IN_FRACTION;
                }
                return c == LETTER_E ? BEHIND_E : NONE;
            case BEHIND_E:
                if (c == MINUS || c == PLUS) {
                    return BEHIND_POWER_SIGN;
                }
                return digit ? IN_POWER : NONE;
            default:
                return digit ? IN_POWER : NONE;
        }
    }

    private void endNumber() {
        if (mode != IN_ZERO && mode != IN_WHOLE && mode != IN_FRACTION && mode != IN_POWER) {
            fail(SYNTAX, at);
            return;
        }
        mode = BEHIND_VALUE;
        boolean isFraction = !isAtTag() && nodeKind[nodeCount - 1] == NUMBER_NODE;
        int decimals = isFraction ? typeDetail[nodeSlot[nodeCount - 1]] : 0;
        long units = readUnits(decimals);
        if (isAtTag()) {
            takeTag(units);
        } else {
            takeUnits(units);
        }
    }

    private void takeUnits(long units) {
        int node = nodeCount - 1;
        int slot = nodeSlot[node];
        boolean isReference = nodeKind[node] == REFERENCE_NODE;
        int least = isReference ? 0 : typeLeast[slot];
        int most = isReference ? completeCount[slot] - 1 : typeMost[slot];
        if (units < least || units > most) {
            fail(RANGE, at - 1);
            return;
        }
        nodeValue[node] = (int) units;
    }

    private void takeTag(long units) {
        int level = depth - 1;
        int choice = openNode[level];
        int slot = NONE;
        if (units >= 0 && units < TAGS) {
            slot = tagType[nodeSlot[choice] * TAGS + (int) units];
        }
        if (slot == NONE || typeKind[slot] != RECORD_TYPE) {
            fail(RANGE, at - 1);
            return;
        }
        openSlot[level] = slot;
        nodeValue[choice] = slot;
        nodeTag[choice] = (int) units;
    }

    // Each digit is weighed by itself: one that is not 0 must stand for whole units, and not for more than an int holds.
    private long readUnits(int decimals) {
        int digitsEnd = findInNumber(LETTER_E, at);
        int point = findInNumber(POINT, digitsEnd);
        int shift = decimals + readPower(digitsEnd + 1);
        long units = 0;
        for (int k = tokenStart; k < digitsEnd; k++) {
            int c = text[k];
            if (c >= 1 && c <= 9) {
                int weight = k < point ? point - k - 1 + shift : point - k + shift;
                if (weight < 0 || weight > HIGHEST_DIGIT) {
                    return NOT_WHOLE;
                }
                units += c * powerOfTen(weight);
            }
        }
        return text[tokenStart] == MINUS ? -units : units;
    }

    private int findInNumber(int c, int end) {
        for (int k = tokenStart; k < end; k++) {
            if (text[k] == c) {
                return k;
            }
        }
        return end;
    }

    private int readPower(int from) {
        int power = 0;
        for (int k = from; k < at; k++) {
            if (text[k] <= 9 && power < POWER_MOST) {
                power = 10 * power + text[k];
            }
        }
        return from < at && text[from] == MINUS ? -power : power;
    }

    private static long powerOfTen(int n) {
        long power = 1;
        for (int k = 0; k < n; k++) {
            power *= 10;
        }
        return power;
    }

    // ---- printing ----

    private void write(int c) {
        if (outputLength < PRINTED_MOST) {
            output[outputLength] = c;
        }
        outputLength++;
    }

    private void writeNode(int node) {
        switch (nodeKind[node]) {
            case NUMBER_NODE:
                writeNumber(nodeValue[node], typeDetail[nodeSlot[node]]);
                break;
            case TEXT_NODE:
                writeString(nodeStart[node]);
                break;
            case FLAG_NODE:
                write(nodeValue[node] == 1 ? LETTER_T : LETTER_F);
                break;
            case LIST_NODE:
            case RECORD_NODE:
                writeOpen(node);
                break;
            case REFERENCE_NODE:
                writeNumber(nodeValue[node], 0);
                break;
            default:
                write(LETTER_N);
                break;
        }
    }

    private void writeOpen(int node) {
        boolean isList = nodeKind[node] == LIST_NODE;
        boolean isChoice = nodeTag[node] != NONE;
        int slot = nodeSlot[node];
        write(isList ? OPEN_BRACKET : OPEN_BRACE);
        if (isChoice) {
            writeName(typeDetail[slot]);
            write(nodeTag[node]);
        }
        openNode[depth] = node;
        openSlot[depth] = isChoice ? nodeValue[node] : slot;
        openNext[depth] = 0;
        openComma[depth] = isChoice;
        depth++;
    }

    private int nextChild() {
        int level = depth - 1;
        int parent = openNode[level];
        if (isInList()) {
            int name = openNext[level];
            openNext[level]++;
            return findChild(parent, name);
        }
        int slot = openSlot[level];
        for (int k = openNext[level]; k < fieldCount[slot]; k++) {
            int child = findChild(parent, fieldName[slot * FIELDS_MOST + k]);
            if (child != NONE) {
                openNext[level] = k + 1;
                return child;
            }
        }
        return NONE;
    }

    private int findChild(int parent, int name) {
        for (int k = 0; k < nodeCount; k++) {
            if (nodeParent[k] == parent && nodeName[k] == name) {
                return k;
            }
        }
        return NONE;
    }

    private void writeLead(int child) {
        int level = depth - 1;
        if (openComma[level]) {
            write(COMMA);
        }
        openComma[level] = true;
        if (!isInList()) {
            writeName(nodeName[child]);
        }
    }

    private void writeClose() {
        boolean inList = isInList();
        write(inList ? CLOSE_BRACKET : CLOSE_BRACE);
        depth--;
    }

    private void writeName(int name) {
        write(QUOTE);
        write(FIRST_NAME + name);
        write(QUOTE);
        write(COLON);
    }

    // A string has one way to be written, so it is copied as it stands.
    private void writeString(int start) {
        boolean behindBackslash = false;
        write(QUOTE);
        for (int k = start + 1; k < length; k++) {
            int c = text[k];
            write(c);
            if (c == QUOTE && !behindBackslash) {
                return;
            }
            behindBackslash = c == BACKSLASH && !behindBackslash;
        }
    }

    private void writeNumber(int units, int decimals) {
        // As a long: the least int has no int opposite to it.
        long rest = units;
        if (rest < 0) {
            write(MINUS);
            rest = -rest;
        }
        long one = powerOfTen(decimals);
        writeWhole(rest / one);
        rest = rest % one;
        if (rest > 0) {
            write(POINT);
        }
        for (int k = 0; k < decimals && rest > 0; k++) {
            rest = rest * 10;
            write((int) (rest / one));
            rest = rest % one;
        }
    }

    private void writeWhole(long whole) {
        long weight = 1;
        for (int k = 0; k < HIGHEST_DIGIT && whole / weight >= 10; k++) {
            weight *= 10;
        }
        for (int k = 0; k <= HIGHEST_DIGIT && weight > 0; k++) {
            write((int) (whole / weight % 10));
            weight = weight / 10;
        }
    }
}
