import java.util.Arrays;

/** A small language of owned values and lent places: texts are read, typed, looked over and run. */
public final class OwnedPlaces {
    private static final int MOST_BYTES = 3000;
    private static final int BYTES_FED = 20;
    private static final int MOST_INPUT = 60;
    private static final int MOST_WAITING = 4000;
    private static final int MOST_FETCHED = 7;
    private static final int MOST_FUEL = 20000;
    private static final int LEAST_HEAP = 16;
    private static final int MOST_HEAP = 4000;
    private static final int USUAL_HEAP = 500;

    private static final int SYNTAX = 1;
    private static final int LIMIT = 2;
    private static final int NO_NAME = 3;
    private static final int NO_TYPE = 4;
    private static final int NO_MOVE = 5;
    private static final int NO_LOAN = 6;
    private static final int PANIC = 7;
    private static final int NO_FUEL = 8;
    private static final int NO_ROOM = 9;
    private static final int TOO_DEEP = 10;

    private static final int NESTING = 16;
    private static final int MOST_SHAPES = 30;
    private static final int MOST_FUNCTIONS = 40;
    private static final int MOST_PARTS = 12;
    private static final int MOST_LIVES = 8;
    private static final int MOST_VARIABLES = 40;
    private static final int MOST_MEMBERS = 16;
    private static final int MOST_BORROWS = 54;
    private static final int MOST_CELLS = 16;
    private static final int MOST_STEPS_ON_A_PLACE = 4;
    private static final int MOST_CALLS = 60;

    // Rows are as long as 3000 bytes of text can ask for: a token is a byte or more, a statement of two bytes
    // makes three instructions, and two bytes of a sign with one of an operand make a label.
    private static final int MOST_TOKENS = MOST_BYTES + 2;
    private static final int MOST_NAMES = MOST_BYTES + 20;
    private static final int MOST_TYPES = MOST_BYTES + 40;
    private static final int MOST_CODE = 2 * MOST_BYTES;
    private static final int MOST_LABELS = 1100;
    private static final int MOST_TEMPS = 512;
    private static final int MOST_ROUNDS = 1000000;
    private static final int MOST_INSTRUCTIONS = 1 << 30;

    private static final String WORDS =
        "struct enum fn let mut if else while match return print read true false box new token int bool main ";
    private static final int WORD_TOTAL = 19;
    // A name, not a word, but one that is asked for.
    private static final int MAIN_NAME = 19;
    private static final int LONGEST_NAME = 20;
    private static final int BUCKETS = 256;

    // Kinds of tokens: the words stand in the order of WORDS, a sign of one byte is its own kind.
    private static final int END = 0;
    private static final int BAD = 1;
    private static final int NAME = 2;
    private static final int LIFE = 3;
    private static final int NUMBER = 4;
    private static final int STRUCT = 5;
    private static final int ENUM = 6;
    private static final int FN = 7;
    private static final int LET = 8;
    private static final int MUT = 9;
    private static final int IF = 10;
    private static final int ELSE = 11;
    private static final int WHILE = 12;
    private static final int MATCH = 13;
    private static final int RETURN = 14;
    private static final int PRINT = 15;
    private static final int READ = 16;
    private static final int TRUE = 17;
    private static final int FALSE = 18;
    private static final int BOX = 19;
    private static final int NEW = 20;
    private static final int TOKEN = 21;
    private static final int INT = 22;
    private static final int BOOL = 23;
    private static final String PAIRS = "==!=<=>=&&||::->=>";
    private static final String SINGLES = "+-*/%<>!=&.,:;(){}";
    private static final int FIRST_PAIR = 128;
    private static final int SAME = 128;
    private static final int DIFFERENT = 129;
    private static final int AT_MOST = 130;
    private static final int AT_LEAST = 131;
    private static final int AND = 132;
    private static final int OR = 133;
    private static final int PATH = 134;
    private static final int ARROW = 135;
    private static final int YIELDS = 136;

    // Types that are always there; structs and enums follow in the text's order, then all made of others.
    private static final int UNKNOWN = -1;
    private static final int NOTHING_TYPE = 0;
    private static final int INT_TYPE = 1;
    private static final int BOOL_TYPE = 2;
    private static final int TOKEN_TYPE = 3;
    private static final int FIRST_SHAPE = 4;
    private static final int FIRST_MADE = FIRST_SHAPE + MOST_SHAPES;

    private static final int IS_PLAIN = 0;
    private static final int IS_TOKEN = 1;
    private static final int IS_STRUCT = 2;
    private static final int IS_ENUM = 3;
    private static final int IS_BOX = 4;
    private static final int IS_SHARED = 5;
    private static final int IS_UNIQUE = 6;

    // Instructions that work on values.
    private static final int DO_NUMBER = 0;
    private static final int DO_READ = 1;
    private static final int DO_COPY = 2;
    private static final int DO_MOVE = 3;
    private static final int DO_BORROW = 4;
    private static final int DO_NEGATE = 5;
    private static final int DO_NOT = 6;
    private static final int DO_OPERATE = 7;
    private static final int DO_BOX = 8;
    private static final int DO_NEW = 9;
    private static final int DO_FIELD = 10;
    private static final int DO_TAG = 11;
    private static final int DO_PAD = 12;
    // Instructions that tell which one is next.
    private static final int FIRST_FLOW = 13;
    private static final int DO_LABEL = 13;
    private static final int DO_HEAD = 14;
    private static final int DO_LOOP = 15;
    private static final int DO_JUMP = 16;
    private static final int DO_UNLESS = 17;
    private static final int DO_AND = 18;
    private static final int DO_OR = 19;
    private static final int DO_SWITCH = 20;
    private static final int DO_CALL = 21;
    private static final int DO_RETURN = 22;
    private static final int DO_FUEL = 23;
    // Instructions that work on variables, or end what a statement made.
    private static final int FIRST_EFFECT = 24;
    private static final int DO_LET = 24;
    private static final int DO_LET_NONE = 25;
    private static final int DO_ASSIGN = 26;
    private static final int DO_DROP = 27;
    private static final int DO_PRINT = 28;
    private static final int DO_BIND = 29;
    private static final int DO_BIND_REFERENCE = 30;
    private static final int DO_POP = 31;
    private static final int DO_SCOPE = 32;

    private static final int STAR_STEP = 13;
    private static final int ALL_CELLS = 0xFFFF;
    private static final int FIRST_OUTER = MOST_BORROWS;
    private static final int OUTER_OF_NONE = FIRST_OUTER + MOST_LIVES;
    private static final int STILL_OPEN = 1 << 30;
    private static final long LEAST_LONG = 1L << 63;

    // A frame has at most 40 variables of 16 cells, and on each of 15 levels of nesting 12 arguments of 16 cells.
    private static final int FRAME_MOST = 3600;
    private static final int FIRST_STACK = 8192;

    private final Text text = new Text();
    private final Grammar grammar = new Grammar(text);
    private final Types types = new Types();
    private final Declarations declared = new Declarations(text, types);
    private final Code code = new Code();
    private final Typing typing = new Typing(text, types, declared, code);
    private final Moves moves = new Moves(types, code);
    private final Loans loans = new Loans(types, code, declared);
    private final Queue numbers = new Queue(MOST_INPUT);
    private final Queue waiting = new Queue(MOST_WAITING);
    private final Memory memory;
    private final Machine machine;
    private int fuelLeft;
    private int lastPlace = -1;

    public OwnedPlaces(int cells) {
        int heap = cells >= LEAST_HEAP && cells <= MOST_HEAP ? cells : USUAL_HEAP;
        memory = new Memory(types, waiting, heap);
        machine = new Machine(code, types, declared, memory, numbers, waiting);
    }

    public boolean feed(int a, int b, int c, int d, int e) {
        if (text.length + BYTES_FED > MOST_BYTES) {
            return false;
        }
        text.append(a);
        text.append(b);
        text.append(c);
        text.append(d);
        text.append(e);
        return true;
    }

    public boolean input(long v) {
        return numbers.put(v);
    }

    public int run(int n, int fuel) {
        if (n < 0 || n > text.length || fuel < 0 || fuel > MOST_FUEL) {
            return -1;
        }
        memory.clear();
        lookOver(n);
        text.length = 0;
        lastPlace = text.place;
        fuelLeft = fuel;
        if (text.fault != 0) {
            return text.fault;
        }
        int fault = machine.execute(declared.main, fuel);
        fuelLeft = machine.fuel;
        return fault;
    }

    public int place() {
        return lastPlace;
    }

    public long fetch() {
        int size = Math.min(waiting.size, MOST_FETCHED);
        long answer = size;
        for (int i = 0; i < MOST_FETCHED; i++) {
            answer = answer << 8 | (i < size ? waiting.take() : 0);
        }
        return answer;
    }

    public int count(int what) {
        switch (what) {
            case 0: return fuelLeft;
            case 1: return memory.inUse;
            case 2: return memory.mostInUse;
            case 3: return text.length;
            case 4: return waiting.size;
            case 5: return numbers.size;
            default: return -1;
        }
    }

    private void lookOver(int n) {
        text.read(n);
        grammar.program();
        if (text.fault == 0) {
            declared.read(grammar);
        }
        if (text.fault == 0) {
            typing.program();
        }
        for (int i = 0; i < declared.total && text.fault == 0; i++) {
            int moved = moves.firstFault(declared.functions[i]);
            int lent = moved >= 0 ? -1 : loans.firstFault(declared.functions[i]);
            if (moved >= 0) {
                text.fail(NO_MOVE, moved);
            } else if (lent >= 0) {
                text.fail(NO_LOAN, lent);
            }
        }
    }

    /** A row of numbers, the first that came being the first that goes. */
    private static final class Queue {
        private final long[] row;
        private final byte[] digits = new byte[20];
        private int first;
        int size;

        Queue(int most) {
            row = new long[most];
        }

        boolean put(long v) {
            if (size == row.length) {
                return false;
            }
            row[(first + size) % row.length] = v;
            size++;
            return true;
        }

        /** 0, if there is none. */
        long take() {
            if (size == 0) {
                return 0;
            }
            long v = row[first];
            first = (first + 1) % row.length;
            size--;
            return v;
        }

        void putText(String s) {
            for (int i = 0; i < s.length(); i++) {
                put(s.charAt(i));
            }
        }

        void putNumber(long v) {
            int length = 0;
            long rest = v;
            // Digits are taken from the negative side, where the least number has its like.
            if (rest > 0) {
                rest = -rest;
            }
            do {
                digits[length] = (byte) ('0' - rest % 10);
                rest = rest / 10;
                length++;
            } while (rest != 0 && length < digits.length);
            if (v < 0) {
                put('-');
            }
            for (int i = length - 1; i >= 0; i--) {
                put(digits[i]);
            }
        }
    }

    /** The bytes of the text, its tokens, a cursor on them, and the first fault that was told of them. */
    private static final class Text {
        final int[] kinds = new int[MOST_TOKENS];
        final int[] places = new int[MOST_TOKENS];
        final int[] names = new int[MOST_TOKENS];
        final long[] numbers = new long[MOST_TOKENS];
        /** Of the ( of exps or names: how many there are; of a statement's first token: its =, or 0. */
        final int[] links = new int[MOST_TOKENS];
        int length;
        int now;
        int fault;
        int place = -1;
        int nameTotal;
        private final byte[] bytes = new byte[MOST_BYTES];
        private int total;
        private final byte[] spelled = new byte[MOST_BYTES + 120];
        private final int[] nameFrom = new int[MOST_NAMES];
        private final int[] nameSize = new int[MOST_NAMES];
        private final int[] nameNext = new int[MOST_NAMES];
        private final int[] heads = new int[BUCKETS];
        private final int[] wordHeads;

        Text() {
            Arrays.fill(heads, -1);
            byte[] words = new byte[WORDS.length()];
            int from = 0;
            for (int i = 0; i < words.length; i++) {
                words[i] = (byte) WORDS.charAt(i);
                if (words[i] == ' ') {
                    nameOf(words, from, i - from);
                    from = i + 1;
                }
            }
            wordHeads = heads.clone();
        }

        void append(int four) {
            for (int shift = 24; shift >= 0; shift -= 8) {
                bytes[length] = (byte) (four >> shift);
                length++;
            }
        }

        void read(int n) {
            System.arraycopy(wordHeads, 0, heads, 0, BUCKETS);
            nameTotal = MAIN_NAME + 1;
            total = 0;
            fault = 0;
            place = -1;
            int i = 0;
            for (int count = 0; count < n && i < n; count++) {
                i = readToken(i, n);
            }
            add(END, n, 0);
            now = 0;
        }

        int kind() {
            return kinds[now];
        }

        int where() {
            return places[now];
        }

        int kindBehind(int steps) {
            return kinds[Math.min(now + steps, total - 1)];
        }

        void step(int steps) {
            now = Math.min(now + steps, total - 1);
        }

        boolean take(int wanted) {
            if (kinds[now] != wanted || wanted == END) {
                return false;
            }
            now++;
            return true;
        }

        void need(int wanted) {
            if (kinds[now] == wanted && wanted != END) {
                now++;
            } else {
                fail(SYNTAX, places[now]);
            }
        }

        /** The cursor goes to the end, so that no reader goes on. */
        void fail(int which, int where) {
            if (fault == 0) {
                fault = which;
                place = where;
            }
            now = total - 1;
        }

        private void add(int kind, int where, int name) {
            kinds[total] = kind;
            places[total] = where;
            names[total] = name;
            links[total] = 0;
            total++;
        }

        /** What stands behind a token that is none is not looked at. */
        private int addBad(int where, int n) {
            add(BAD, where, 0);
            return n;
        }

        private int readToken(int i, int n) {
            int c = bytes[i];
            if (c == 9 || c == 10 || c == 13 || c == 32) {
                return i + 1;
            }
            if (c == '/' && i + 1 < n && bytes[i + 1] == '/') {
                return readComment(i, n);
            }
            if (isLetter(c)) {
                return readWord(i, n);
            }
            if (isDigit(c)) {
                return readNumber(i, n);
            }
            return c == '\'' ? readLife(i, n) : readSign(i, n);
        }

        private int readComment(int from, int n) {
            for (int i = from; i < n; i++) {
                int c = bytes[i];
                if (c == 10) {
                    return i + 1;
                }
                if (c != 9 && c != 13 && (c < 32 || c > 126)) {
                    return addBad(i, n);
                }
            }
            return n;
        }

        private int readWord(int from, int n) {
            int end = wordEnd(from, n);
            if (end - from > LONGEST_NAME) {
                return addBad(from, n);
            }
            int name = nameOf(bytes, from, end - from);
            add(name < WORD_TOTAL ? STRUCT + name : NAME, from, name);
            return end;
        }

        private int readLife(int from, int n) {
            int end = from + 1 < n && isLetter(bytes[from + 1]) ? wordEnd(from + 1, n) : from;
            int size = end - from - 1;
            if (size < 1 || size > LONGEST_NAME) {
                return addBad(from, n);
            }
            int name = nameOf(bytes, from + 1, size);
            if (name < WORD_TOTAL) {
                return addBad(from, n);
            }
            add(LIFE, from, name);
            return end;
        }

        private int readNumber(int from, int n) {
            long value = 0;
            int end = from;
            for (int i = from; i < n && isDigit(bytes[i]); i++) {
                int digit = bytes[i] - '0';
                if (value > (~LEAST_LONG - digit) / 10) {
                    return addBad(from, n);
                }
                value = value * 10 + digit;
                end = i + 1;
            }
            if (end < n && isLetter(bytes[end])) {
                return addBad(from, n);
            }
            numbers[total] = value;
            add(NUMBER, from, 0);
            return end;
        }

        private int readSign(int from, int n) {
            int c = bytes[from];
            for (int i = 0; i + 1 < PAIRS.length() && from + 1 < n; i += 2) {
                if (PAIRS.charAt(i) == c && PAIRS.charAt(i + 1) == bytes[from + 1]) {
                    add(FIRST_PAIR + i / 2, from, 0);
                    return from + 2;
                }
            }
            for (int i = 0; i < SINGLES.length(); i++) {
                if (SINGLES.charAt(i) == c) {
                    add(c, from, 0);
                    return from + 1;
                }
            }
            return addBad(from, n);
        }

        private int wordEnd(int from, int n) {
            int end = from;
            while (end < n && (isLetter(bytes[end]) || isDigit(bytes[end]))) {
                end++;
            }
            return end;
        }

        private static boolean isLetter(int c) {
            return c >= 'a' && c <= 'z' || c >= 'A' && c <= 'Z' || c == '_';
        }

        private static boolean isDigit(int c) {
            return c >= '0' && c <= '9';
        }

        /** One number for all names that are spelled alike. */
        private int nameOf(byte[] source, int from, int size) {
            int hash = size;
            for (int i = from; i < from + size; i++) {
                hash = hash * 31 + source[i];
            }
            int bucket = hash & BUCKETS - 1;
            int name = heads[bucket];
            for (int i = 0; i < MOST_NAMES && name >= 0; i++) {
                if (isSpelled(name, source, from, size)) {
                    return name;
                }
                name = nameNext[name];
            }
            return addName(bucket, source, from, size);
        }

        private boolean isSpelled(int name, byte[] source, int from, int size) {
            if (nameSize[name] != size) {
                return false;
            }
            for (int i = 0; i < size; i++) {
                if (spelled[nameFrom[name] + i] != source[from + i]) {
                    return false;
                }
            }
            return true;
        }

        private int addName(int bucket, byte[] source, int from, int size) {
            int name = nameTotal;
            int start = name == 0 ? 0 : nameFrom[name - 1] + nameSize[name - 1];
            System.arraycopy(source, from, spelled, start, size);
            nameFrom[name] = start;
            nameSize[name] = size;
            nameNext[name] = heads[bucket];
            heads[bucket] = name;
            nameTotal++;
            return name;
        }
    }

    /** How tightly a sign between two exps binds; 0, if it is none. */
    private static int levelOf(int sign) {
        switch (sign) {
            case OR: return 1;
            case AND: return 2;
            case SAME: case DIFFERENT: case '<': case AT_MOST: case '>': case AT_LEAST: return 3;
            case '+': case '-': return 4;
            case '*': case '/': case '%': return 5;
            default: return 0;
        }
    }

    /** Looks a text over for SYNTAX and LIMIT, and notes where its items begin. */
    private static final class Grammar {
        private final Text text;
        final int[] items = new int[MOST_SHAPES + MOST_FUNCTIONS];
        int total;
        private int shapes;
        private int functions;
        private int variables;
        private int borrows;

        Grammar(Text text) {
            this.text = text;
        }

        void program() {
            total = 0;
            shapes = 0;
            functions = 0;
            for (int i = 0; i < MOST_TOKENS && text.kind() != END; i++) {
                int word = text.kind();
                if (word == FN) {
                    function();
                } else if (word == STRUCT || word == ENUM) {
                    shape(word);
                } else {
                    syntax();
                }
            }
        }

        private void noteItem() {
            items[total] = text.now;
            total++;
            text.step(1);
            text.need(NAME);
        }

        private void syntax() {
            text.fail(SYNTAX, text.where());
        }

        private void limit() {
            text.fail(LIMIT, text.where());
        }

        private void shape(int word) {
            if (shapes == MOST_SHAPES) {
                limit();
                return;
            }
            shapes++;
            noteItem();
            text.need('{');
            for (int i = 0; i < MOST_TOKENS && (i == 0 || text.take(',')); i++) {
                if (text.kind() == NAME && i == MOST_PARTS) {
                    limit();
                }
                text.need(NAME);
                if (word == ENUM) {
                    variantParts();
                } else {
                    text.need(':');
                    type(0);
                }
            }
            text.need('}');
        }

        private void variantParts() {
            if (!text.take('(')) {
                return;
            }
            for (int i = 0; i < MOST_TOKENS && (i == 0 || text.take(',')); i++) {
                if (i == MOST_PARTS && startsType()) {
                    limit();
                }
                type(0);
            }
            text.need(')');
        }

        private boolean startsType() {
            int kind = text.kind();
            return isPlainType(kind) || kind == BOX || kind == '&';
        }

        private static boolean isPlainType(int kind) {
            return kind == INT || kind == BOOL || kind == TOKEN || kind == NAME;
        }

        private void type(int depth) {
            int deep = depth;
            for (int i = 0; i < MOST_TOKENS && (text.kind() == BOX || text.kind() == '&'); i++) {
                deep++;
                if (deep > NESTING) {
                    limit();
                } else if (!text.take(BOX)) {
                    text.step(1);
                    text.take(LIFE);
                    text.take(MUT);
                }
            }
            if (isPlainType(text.kind())) {
                text.step(1);
            } else {
                syntax();
            }
        }

        private void function() {
            if (functions == MOST_FUNCTIONS) {
                limit();
                return;
            }
            functions++;
            variables = 0;
            borrows = 0;
            noteItem();
            if (text.take('<')) {
                lives();
            }
            text.need('(');
            if (!text.take(')')) {
                parameters();
            }
            if (text.take(ARROW)) {
                type(0);
            }
            block(0);
        }

        private void lives() {
            for (int i = 0; i < MOST_TOKENS && (i == 0 || text.take(',')); i++) {
                if (text.kind() == LIFE && i == MOST_LIVES) {
                    limit();
                }
                text.need(LIFE);
            }
            text.need('>');
        }

        private void parameters() {
            for (int i = 0; i < MOST_TOKENS && (i == 0 || text.take(',')); i++) {
                variable(i);
                text.need(':');
                type(0);
            }
            text.need(')');
        }

        /** The name of a variable that is the one behind so many in its row. */
        private void variable(int ahead) {
            if (text.kind() == NAME && (ahead == MOST_PARTS || variables == MOST_VARIABLES)) {
                limit();
            }
            variables++;
            text.need(NAME);
        }

        /** A bracket that goes one deeper. */
        private boolean open(int bracket, int depth) {
            if (text.kind() != bracket) {
                syntax();
                return false;
            }
            if (depth == NESTING) {
                limit();
                return false;
            }
            text.step(1);
            return true;
        }

        private void block(int depth) {
            if (!open('{', depth)) {
                return;
            }
            for (int i = 0; i < MOST_TOKENS && text.kind() != '}' && text.kind() != END; i++) {
                statement(depth + 1);
            }
            text.need('}');
        }

        private void statement(int depth) {
            switch (text.kind()) {
                case LET: let(depth); break;
                case IF: branch(depth); break;
                case MATCH: match(depth); break;
                case '{': block(depth); break;
                case WHILE:
                    text.step(1);
                    exp(depth);
                    block(depth);
                    break;
                case RETURN:
                    text.step(1);
                    if (text.kind() != ';') {
                        exp(depth);
                    }
                    text.need(';');
                    break;
                case PRINT:
                    text.step(1);
                    exp(depth);
                    text.need(';');
                    break;
                default: assignment(depth);
            }
        }

        private void let(int depth) {
            text.step(1);
            text.take(MUT);
            variable(0);
            if (text.take(':')) {
                type(depth);
            }
            if (text.take('=')) {
                exp(depth);
            }
            text.need(';');
        }

        private void assignment(int depth) {
            int start = text.now;
            boolean isPlace = exp(depth);
            if (text.kind() == '=' && isPlace) {
                text.links[start] = text.now;
                text.step(1);
                exp(depth);
            }
            text.need(';');
        }

        private void branch(int depth) {
            boolean more = true;
            for (int i = 0; i < MOST_TOKENS && more; i++) {
                text.need(IF);
                exp(depth);
                block(depth);
                boolean otherwise = text.take(ELSE);
                more = otherwise && text.kind() == IF;
                if (otherwise && !more) {
                    block(depth);
                }
            }
        }

        private void match(int depth) {
            text.step(1);
            boolean borrowed = text.kind() == '&';
            if (borrowed) {
                borrow();
                text.step(1);
                text.take(MUT);
            }
            boolean isPlace = exp(depth);
            if (borrowed && !isPlace) {
                syntax();
            }
            if (!open('{', depth)) {
                return;
            }
            for (int i = 0; i < MOST_TOKENS && text.take(NAME); i++) {
                arm(depth + 1);
            }
            text.need('}');
        }

        private void arm(int depth) {
            int bracket = text.now;
            if (text.take('(')) {
                int total = 0;
                for (int i = 0; i < MOST_TOKENS && (i == 0 || text.take(',')); i++) {
                    variable(i);
                    total++;
                }
                text.links[bracket] = total;
                text.need(')');
            }
            text.need(YIELDS);
            block(depth);
        }

        private void borrow() {
            if (borrows == MOST_BORROWS) {
                limit();
            }
            borrows++;
        }

        /** Whether it is a place. */
        private boolean exp(int depth) {
            return binary(1, depth);
        }

        private boolean binary(int least, int depth) {
            boolean isPlace = unary(depth);
            for (int i = 0; i < MOST_TOKENS && levelOf(text.kind()) >= least; i++) {
                int level = levelOf(text.kind());
                isPlace = false;
                if (depth == NESTING) {
                    limit();
                } else {
                    text.step(1);
                    binary(level + 1, depth + 1);
                }
            }
            return isPlace;
        }

        private boolean unary(int depth) {
            int sign = text.kind();
            if (sign != '!' && sign != '-' && sign != '*' && sign != '&' && sign != BOX) {
                return suffixed(depth);
            }
            if (depth == NESTING) {
                limit();
                return false;
            }
            if (sign == '&') {
                borrow();
            }
            text.step(1);
            if (sign == '&') {
                text.take(MUT);
            }
            boolean isPlace = unary(depth + 1);
            return isPlace && sign == '*';
        }

        private boolean suffixed(int depth) {
            boolean isPlace = primary(depth);
            for (int i = 0; i < MOST_TOKENS && text.kind() == '.'; i++) {
                if (i == MOST_MEMBERS) {
                    limit();
                } else {
                    text.step(1);
                    text.need(NAME);
                }
            }
            return isPlace;
        }

        private boolean primary(int depth) {
            switch (text.kind()) {
                case NUMBER: case TRUE: case FALSE: case READ:
                    text.step(1);
                    return false;
                case NAME: return named(depth);
                case '(': return bracketed(depth);
                case TOKEN:
                    text.step(1);
                    bracketed(depth);
                    return false;
                case NEW:
                    built(depth);
                    return false;
                default:
                    syntax();
                    return false;
            }
        }

        private boolean named(int depth) {
            text.step(1);
            if (text.take(PATH)) {
                text.need(NAME);
                if (text.kind() == '(') {
                    exps(depth, 1);
                }
                return false;
            }
            if (text.kind() == '(') {
                exps(depth, 0);
                return false;
            }
            return true;
        }

        private boolean bracketed(int depth) {
            if (!open('(', depth)) {
                return false;
            }
            boolean isPlace = exp(depth + 1);
            text.need(')');
            return isPlace;
        }

        private void exps(int depth, int least) {
            int bracket = text.now;
            if (!open('(', depth)) {
                return;
            }
            int total = 0;
            if (least > 0 || text.kind() != ')') {
                for (int i = 0; i < MOST_TOKENS && (i == 0 || text.take(',')); i++) {
                    exp(depth + 1);
                    total++;
                }
            }
            text.links[bracket] = total;
            text.need(')');
        }

        private void built(int depth) {
            text.step(1);
            text.need(NAME);
            if (!open('{', depth)) {
                return;
            }
            for (int i = 0; i < MOST_TOKENS && (i == 0 || text.take(',')); i++) {
                text.need(NAME);
                text.need(':');
                exp(depth + 1);
            }
            text.need('}');
        }
    }

    /** All types by number, and what structs and enums consist of; a struct is held as one variant with names. */
    private static final class Types {
        final int[] kind = new int[MOST_TYPES];
        final int[] of = new int[MOST_TYPES];
        final int[] size = new int[MOST_TYPES];
        final boolean[] drops = new boolean[MOST_TYPES];
        private final int[] boxes = new int[MOST_TYPES];
        private final int[] shared = new int[MOST_TYPES];
        private final int[] unique = new int[MOST_TYPES];
        private int total;
        int shapes;
        final int[] shapeToken = new int[MOST_SHAPES];
        final int[] variants = new int[MOST_SHAPES];
        final int[] variantName = new int[MOST_SHAPES * MOST_PARTS];
        final int[] parts = new int[MOST_SHAPES * MOST_PARTS];
        final int[] partName = new int[MOST_SHAPES * MOST_PARTS * MOST_PARTS];
        final int[] partType = new int[MOST_SHAPES * MOST_PARTS * MOST_PARTS];
        final int[] partOffset = new int[MOST_SHAPES * MOST_PARTS * MOST_PARTS];

        void clear() {
            shapes = 0;
            total = 0;
            for (int t = 0; t < FIRST_MADE; t++) {
                make(IS_PLAIN, 0);
                size[t] = t == INT_TYPE || t == BOOL_TYPE || t == TOKEN_TYPE ? 1 : 0;
            }
            kind[TOKEN_TYPE] = IS_TOKEN;
            drops[TOKEN_TYPE] = true;
        }

        int addShape(int token, int itsKind) {
            int shape = shapes;
            shapeToken[shape] = token;
            variants[shape] = 0;
            kind[FIRST_SHAPE + shape] = itsKind;
            shapes++;
            return shape;
        }

        int addVariant(int shape, int name) {
            int row = shape * MOST_PARTS + variants[shape];
            variantName[row] = name;
            parts[row] = 0;
            variants[shape]++;
            return row;
        }

        void addPart(int row, int name, int type) {
            int part = row * MOST_PARTS + parts[row];
            partName[part] = name;
            partType[part] = type;
            parts[row]++;
        }

        int boxOf(int type) {
            if (boxes[type] == 0) {
                boxes[type] = make(IS_BOX, type);
            }
            return boxes[type];
        }

        int referenceTo(int type, boolean isUnique) {
            int[] row = isUnique ? unique : shared;
            if (row[type] == 0) {
                row[type] = make(isUnique ? IS_UNIQUE : IS_SHARED, type);
            }
            return row[type];
        }

        private int make(int itsKind, int itsOf) {
            if (total == MOST_TYPES) {
                return NOTHING_TYPE;
            }
            int type = total;
            kind[type] = itsKind;
            of[type] = itsOf;
            size[type] = 1;
            drops[type] = itsKind == IS_BOX;
            boxes[type] = 0;
            shared[type] = 0;
            unique[type] = 0;
            total++;
            return type;
        }

        boolean isReference(int type) {
            return type >= 0 && (kind[type] == IS_SHARED || kind[type] == IS_UNIQUE);
        }

        boolean isCopied(int type) {
            return kind[type] == IS_PLAIN || kind[type] == IS_SHARED;
        }

        /** The variant's row, or -1. */
        int variantOf(int shape, int name) {
            for (int i = 0; i < variants[shape]; i++) {
                if (variantName[shape * MOST_PARTS + i] == name) {
                    return i;
                }
            }
            return -1;
        }

        int rowOf(int shape, int variant) {
            return shape * MOST_PARTS + variant;
        }

        /** The part's number in its row, or -1. */
        int partOf(int row, int name) {
            for (int i = 0; i < parts[row]; i++) {
                if (partName[row * MOST_PARTS + i] == name) {
                    return i;
                }
            }
            return -1;
        }

        /** A shape whose size stays 0 has, without a box between, one in it that is in itself. */
        void measure() {
            for (int round = 0; round < shapes; round++) {
                for (int shape = 0; shape < shapes; shape++) {
                    if (size[FIRST_SHAPE + shape] == 0) {
                        measureShape(shape);
                    }
                }
            }
        }

        private void measureShape(int shape) {
            int type = FIRST_SHAPE + shape;
            int head = kind[type] == IS_ENUM ? 1 : 0;
            int most = 0;
            boolean dropping = false;
            for (int i = 0; i < variants[shape]; i++) {
                int row = rowOf(shape, i);
                int sum = head;
                for (int p = row * MOST_PARTS; p < row * MOST_PARTS + parts[row]; p++) {
                    if (size[partType[p]] == 0) {
                        return;
                    }
                    partOffset[p] = sum;
                    // Kept low: one cell too many is as bad as more.
                    sum = Math.min(sum + size[partType[p]], MOST_CELLS + 1);
                    dropping = dropping || drops[partType[p]];
                }
                most = Math.max(most, sum);
            }
            size[type] = most;
            drops[type] = dropping;
        }
    }

    /** A function: what it asks and gives, its variables (the parameters first) and where its code is. */
    private static final class Function {
        int token;
        int body;
        int lives;
        final int[] lifeName = new int[MOST_LIVES];
        int parameters;
        final int[] parameterLife = new int[MOST_PARTS];
        int argumentCells;
        int result;
        int resultLife;
        int variables;
        final int[] name = new int[MOST_VARIABLES];
        final int[] type = new int[MOST_VARIABLES];
        final boolean[] mutable = new boolean[MOST_VARIABLES];
        final int[] offset = new int[MOST_VARIABLES];
        /** The first and the first no longer of the instructions where the variable is in scope. */
        final int[] from = new int[MOST_VARIABLES];
        final int[] to = new int[MOST_VARIABLES];
        int cells;
        int codeFrom;
        int codeTo;
        int labelFrom;
        int labelTo;
        int borrows;

        void begin(int itsToken) {
            token = itsToken;
            lives = 0;
            parameters = 0;
            result = NOTHING_TYPE;
            resultLife = -1;
            variables = 0;
            cells = 0;
            borrows = 0;
        }

        int declare(int itsName, boolean isMutable, int codeAt) {
            int v = variables;
            name[v] = itsName;
            type[v] = UNKNOWN;
            mutable[v] = isMutable;
            offset[v] = 0;
            from[v] = codeAt;
            to[v] = STILL_OPEN;
            variables++;
            return v;
        }

        void settle(int v, int itsType, int size) {
            type[v] = itsType;
            offset[v] = cells;
            cells += size;
        }

        /** The latest variable of that name in scope, or -1. */
        int find(int wanted) {
            for (int v = variables - 1; v >= 0; v--) {
                if (name[v] == wanted && to[v] == STILL_OPEN) {
                    return v;
                }
            }
            return -1;
        }

        void close(int first, int codeAt) {
            for (int v = first; v < variables; v++) {
                to[v] = Math.min(to[v], codeAt);
            }
        }

        int lifeOf(int wanted) {
            for (int i = 0; i < lives; i++) {
                if (lifeName[i] == wanted) {
                    return i;
                }
            }
            return -1;
        }
    }

    /** Reads the items' names and types, with the faults that are met ahead of all statements. */
    private static final class Declarations {
        private static final int IN_SHAPE = 0;
        private static final int IN_FUNCTION = 1;
        private static final int IN_LET = 2;
        private final Text text;
        private final Types types;
        final Function[] functions = new Function[MOST_FUNCTIONS];
        int total;
        int main;
        /** Of a name: 0 no item's, s + 1 shape s, -f - 1 function f. */
        private final int[] meanings = new int[MOST_NAMES];
        private Function function;
        private int life;

        Declarations(Text text, Types types) {
            this.text = text;
            this.types = types;
            for (int i = 0; i < MOST_FUNCTIONS; i++) {
                functions[i] = new Function();
            }
        }

        void read(Grammar grammar) {
            total = 0;
            types.clear();
            Arrays.fill(meanings, 0, text.nameTotal, 0);
            for (int i = 0; i < grammar.total && text.fault == 0; i++) {
                readName(grammar.items[i]);
            }
            for (int i = 0; i < grammar.total && text.fault == 0; i++) {
                readItem(grammar.items[i]);
            }
            if (text.fault == 0) {
                types.measure();
                checkSizes();
            }
            if (text.fault == 0) {
                checkMain();
            }
        }

        /** The shape of that name, if it is of that kind, or -1. */
        int shapeOf(int name, int kind) {
            int shape = meanings[name] - 1;
            return shape >= 0 && types.kind[FIRST_SHAPE + shape] == kind ? shape : -1;
        }

        /** The function of that name, or -1. */
        int functionOf(int name) {
            return meanings[name] < 0 ? -meanings[name] - 1 : -1;
        }

        /** The type of a let, at the cursor. */
        int readLetType() {
            return readType(true, IN_LET, 0);
        }

        private void readName(int item) {
            int name = text.names[item + 1];
            if (meanings[name] != 0) {
                text.fail(NO_NAME, text.places[item + 1]);
            } else if (text.kinds[item] == FN) {
                functions[total].begin(item + 1);
                total++;
                meanings[name] = -total;
            } else {
                meanings[name] = types.addShape(item + 1, text.kinds[item] == STRUCT ? IS_STRUCT : IS_ENUM) + 1;
            }
        }

        private void readItem(int item) {
            int meaning = meanings[text.names[item + 1]];
            text.now = item;
            text.step(2);
            if (meaning < 0) {
                function = functions[-meaning - 1];
                readFunction();
            } else if (text.kinds[item] == STRUCT) {
                readStruct(meaning - 1);
            } else {
                readEnum(meaning - 1);
            }
        }

        private void readStruct(int shape) {
            int row = types.addVariant(shape, 0);
            text.step(1);
            for (int i = 0; i < MOST_PARTS && text.kind() == NAME; i++) {
                int name = text.names[text.now];
                if (types.partOf(row, name) >= 0) {
                    text.fail(NO_NAME, text.where());
                }
                text.step(2);
                types.addPart(row, name, readType(false, IN_SHAPE, 0));
                text.take(',');
            }
        }

        private void readEnum(int shape) {
            text.step(1);
            for (int i = 0; i < MOST_PARTS && text.kind() == NAME; i++) {
                int name = text.names[text.now];
                if (types.variantOf(shape, name) >= 0) {
                    text.fail(NO_NAME, text.where());
                }
                text.step(1);
                readParts(types.addVariant(shape, name));
                text.take(',');
            }
        }

        private void readParts(int row) {
            if (!text.take('(')) {
                return;
            }
            for (int i = 0; i < MOST_PARTS && text.fault == 0 && text.kind() != ')'; i++) {
                types.addPart(row, 0, readType(false, IN_SHAPE, 0));
                text.take(',');
            }
            text.take(')');
        }

        private void readFunction() {
            if (text.take('<')) {
                readLives();
            }
            readParameters();
            if (text.take(ARROW)) {
                function.result = readType(true, IN_FUNCTION, 0);
                function.resultLife = life;
            }
            function.body = text.now;
        }

        private void readLives() {
            for (int i = 0; i < MOST_LIVES && text.kind() == LIFE; i++) {
                int name = text.names[text.now];
                if (function.lifeOf(name) >= 0) {
                    text.fail(NO_NAME, text.where());
                }
                function.lifeName[i] = name;
                function.lives++;
                text.step(1);
                text.take(',');
            }
            text.take('>');
        }

        private void readParameters() {
            text.take('(');
            for (int i = 0; i < MOST_PARTS && text.kind() == NAME; i++) {
                int name = text.names[text.now];
                if (function.find(name) >= 0) {
                    text.fail(NO_NAME, text.where());
                }
                text.step(2);
                int type = readType(true, IN_FUNCTION, 0);
                function.type[function.declare(name, false, 0)] = type;
                function.parameterLife[i] = life;
                function.parameters++;
                text.take(',');
            }
            text.take(')');
        }

        /** Leaves the life of a reference, or -1, in life. */
        private int readType(boolean maybeReference, int side, int depth) {
            int kind = text.kind();
            int where = text.where();
            int name = text.names[text.now];
            life = -1;
            if (depth > NESTING) {
                return NOTHING_TYPE;
            }
            if (kind == '&') {
                if (!maybeReference) {
                    text.fail(NO_TYPE, where);
                    return NOTHING_TYPE;
                }
                return readReference(side, depth);
            }
            text.step(1);
            switch (kind) {
                case INT: return INT_TYPE;
                case BOOL: return BOOL_TYPE;
                case TOKEN: return TOKEN_TYPE;
                case BOX: return types.boxOf(readType(false, side, depth + 1));
                default: return namedType(name, where);
            }
        }

        private int namedType(int name, int where) {
            if (meanings[name] <= 0) {
                text.fail(NO_NAME, where);
                return NOTHING_TYPE;
            }
            return FIRST_SHAPE + meanings[name] - 1;
        }

        private int readReference(int side, int depth) {
            text.step(1);
            int token = text.now;
            boolean hasLife = text.take(LIFE);
            boolean isUnique = text.take(MUT);
            int inner = readType(false, side, depth + 1);
            if (hasLife && text.fault == 0) {
                readLife(token, side);
            }
            return types.referenceTo(inner, isUnique);
        }

        private void readLife(int token, int side) {
            if (side == IN_LET) {
                text.fail(NO_TYPE, text.places[token]);
                return;
            }
            life = function.lifeOf(text.names[token]);
            if (life < 0) {
                text.fail(NO_NAME, text.places[token]);
            }
        }

        private void checkSizes() {
            for (int shape = 0; shape < types.shapes; shape++) {
                int size = types.size[FIRST_SHAPE + shape];
                if (size == 0 || size > MOST_CELLS) {
                    text.fail(NO_TYPE, text.places[types.shapeToken[shape]]);
                }
            }
        }

        private void checkMain() {
            main = functionOf(MAIN_NAME);
            if (main < 0) {
                text.step(MOST_TOKENS);
                text.fail(NO_NAME, text.where());
                return;
            }
            Function f = functions[main];
            if (f.lives > 0 || f.parameters > 0 || f.result != NOTHING_TYPE) {
                text.fail(NO_TYPE, text.places[f.token]);
            }
        }
    }

    /** What the functions do, one instruction behind the other, with the places and labels that they speak of. */
    private static final class Code {
        final int[] op = new int[MOST_CODE];
        final int[] a = new int[MOST_CODE];
        final int[] b = new int[MOST_CODE];
        final int[] c = new int[MOST_CODE];
        final int[] where = new int[MOST_CODE];
        int total;
        final int[] labelAt = new int[MOST_LABELS];
        int labels;
        final int[] placeVariable = new int[MOST_TOKENS];
        /** Steps of four bits, the first one lowest: a field and 1, or STAR_STEP. */
        final int[] placePath = new int[MOST_TOKENS];
        final int[] placeLength = new int[MOST_TOKENS];
        /** How many stars, then the cells to go ahead of each star and behind the last one; four bits each. */
        final int[] placeRoute = new int[MOST_TOKENS];
        final int[] placeType = new int[MOST_TOKENS];
        final int[] placeWhere = new int[MOST_TOKENS];
        /** The cells of its variable that it is, or, with stars, the one that the first star is of; a bit each. */
        final int[] placeCells = new int[MOST_TOKENS];
        private int places;
        final int[] armLabels = new int[MOST_TOKENS];
        private int arms;

        void clear() {
            total = 0;
            labels = 0;
            places = 0;
            arms = 0;
        }

        void add(int itsOp, int itsA, int itsB, int itsC, int itsWhere) {
            if (total == MOST_CODE) {
                return;
            }
            op[total] = itsOp;
            a[total] = itsA;
            b[total] = itsB;
            c[total] = itsC;
            where[total] = itsWhere;
            total++;
        }

        void add(int itsOp, int itsA) {
            add(itsOp, itsA, 0, 0, -1);
        }

        void addNumber(long value) {
            add(DO_NUMBER, (int) (value >> 32), (int) value, 0, -1);
        }

        int newLabel() {
            if (labels < MOST_LABELS) {
                labels++;
            }
            return labels - 1;
        }

        void setLabel(int itsOp, int label) {
            labelAt[label] = total;
            add(itsOp, label);
        }

        int newArms(int size) {
            int first = arms;
            arms = Math.min(arms + size, MOST_TOKENS - MOST_PARTS);
            return first;
        }

        int addPlace(int variable, int path, int length, int route, int type, int size, int itsWhere) {
            int p = places;
            int cells = (route & 15) > 0 ? 1 : (1 << size) - 1;
            placeVariable[p] = variable;
            placePath[p] = path;
            placeLength[p] = length;
            placeRoute[p] = route;
            placeType[p] = type;
            placeWhere[p] = itsWhere;
            placeCells[p] = cells << (route >> 4 & 15);
            if (places < MOST_TOKENS - 1) {
                places++;
            }
            return p;
        }

        boolean hasStars(int p) {
            return (placeRoute[p] & 15) > 0;
        }
    }

    /** Types the functions' statements from the left and writes their code. */
    private static final class Typing {
        private final Text text;
        private final Types types;
        private final Declarations declared;
        private final Code code;
        private Function function;
        // The exp that was read last. A place is held back until it is told what it is used for.
        private int type;
        private boolean isPlace;
        private int variable;
        private int path;
        private int length;
        private int route;
        private boolean isMutable;
        private int from;

        Typing(Text text, Types types, Declarations declared, Code code) {
            this.text = text;
            this.types = types;
            this.declared = declared;
            this.code = code;
        }

        void program() {
            code.clear();
            for (int i = 0; i < declared.total && text.fault == 0; i++) {
                function = declared.functions[i];
                body();
            }
        }

        private void body() {
            for (int v = 0; v < function.parameters; v++) {
                function.settle(v, function.type[v], types.size[function.type[v]]);
                function.from[v] = code.total;
            }
            function.argumentCells = function.cells;
            function.codeFrom = code.total;
            function.labelFrom = code.labels;
            text.now = function.body;
            boolean returns = block(function.parameters, 1);
            int end = text.places[text.now - 1];
            if (!returns && function.result != NOTHING_TYPE) {
                text.fail(NO_TYPE, end);
            }
            code.add(DO_RETURN, NOTHING_TYPE, 0, -1, end);
            function.codeTo = code.total;
            function.labelTo = code.labels;
        }

        /** Whether all its ways return; with it the variables from that one on go out of scope. */
        private boolean block(int first, int depth) {
            boolean returns = false;
            text.step(1);
            for (int i = 0; i < MOST_TOKENS && depth <= NESTING && text.fault == 0 && text.kind() != '}'; i++) {
                boolean itReturns = statement(depth);
                returns = returns || itReturns;
            }
            if (first < function.variables) {
                function.close(first, code.total);
                code.add(DO_SCOPE, first, function.variables, 0, text.where());
            }
            text.step(1);
            return returns;
        }

        private boolean statement(int depth) {
            code.add(DO_FUEL, 0);
            switch (text.kind()) {
                case IF: return branch(depth);
                case MATCH: return match(depth);
                case '{': return block(function.variables, depth + 1);
                case RETURN: return giveBack(depth);
                case WHILE: loop(depth); return false;
                case LET: let(depth); return false;
                case PRINT: print(depth); return false;
                default: assignment(depth); return false;
            }
        }

        private void let(int depth) {
            text.step(1);
            boolean hasMut = text.take(MUT);
            int name = text.names[text.now];
            int told = UNKNOWN;
            text.step(1);
            if (text.take(':')) {
                told = declared.readLetType();
            }
            boolean hasExp = text.take('=');
            if (hasExp) {
                int where = text.where();
                int got = value(depth);
                if (got == NOTHING_TYPE || told != UNKNOWN && told != got) {
                    text.fail(NO_TYPE, where);
                }
                told = got;
            }
            int v = function.declare(name, hasMut, code.total);
            if (told != UNKNOWN) {
                function.settle(v, told, types.size[told]);
            }
            code.add(hasExp ? DO_LET : DO_LET_NONE, v);
            text.step(1);
        }

        private void assignment(int depth) {
            int start = text.now;
            int sign = text.links[start];
            if (sign == 0) {
                code.add(DO_DROP, value(depth));
                text.step(1);
                return;
            }
            text.now = sign + 1;
            int where = text.where();
            int got = value(depth);
            int behind = text.now;
            if (text.fault != 0) {
                return;
            }
            int whole = wholeVariable(start, sign);
            if (whole >= 0 && function.type[whole] == UNKNOWN && got != NOTHING_TYPE) {
                function.settle(whole, got, types.size[got]);
            } else if (got == NOTHING_TYPE && whole >= 0) {
                text.fail(NO_TYPE, where);
                return;
            }
            text.now = start;
            binary(1, depth);
            if (text.fault == 0) {
                assign(got, where);
            }
            if (text.fault == 0) {
                text.now = behind + 1;
            }
        }

        /** The variable that is all that stands ahead of the =, or -1. */
        private int wholeVariable(int start, int sign) {
            int brackets = 0;
            while (start + brackets < sign && text.kinds[start + brackets] == '(') {
                brackets++;
            }
            int token = start + brackets;
            boolean isWhole = text.kinds[token] == NAME && token + brackets + 1 == sign;
            return isWhole ? function.find(text.names[token]) : -1;
        }

        private void condition(int depth) {
            fitting(BOOL_TYPE, depth);
        }

        private boolean branch(int depth) {
            int end = code.newLabel();
            boolean returns = true;
            boolean more = true;
            boolean hasElse = false;
            for (int i = 0; i < MOST_TOKENS && more && text.fault == 0; i++) {
                text.step(1);
                condition(depth);
                int other = code.newLabel();
                code.add(DO_UNLESS, other);
                boolean itReturns = block(function.variables, depth + 1);
                returns = returns && itReturns;
                code.add(DO_JUMP, end);
                code.setLabel(DO_LABEL, other);
                hasElse = text.take(ELSE);
                more = hasElse && text.kind() == IF;
            }
            if (hasElse && text.fault == 0) {
                boolean itReturns = block(function.variables, depth + 1);
                returns = returns && itReturns;
            }
            code.setLabel(DO_LABEL, end);
            return returns && hasElse;
        }

        private void loop(int depth) {
            int head = code.newLabel();
            int end = code.newLabel();
            text.step(1);
            code.setLabel(DO_HEAD, head);
            code.add(DO_FUEL, 0);
            condition(depth);
            code.add(DO_UNLESS, end);
            block(function.variables, depth + 1);
            code.add(DO_LOOP, head);
            code.setLabel(DO_LABEL, end);
        }

        private boolean match(int depth) {
            int where = text.where();
            text.step(1);
            boolean borrowed = text.take('&');
            boolean isUnique = borrowed && text.take(MUT);
            int expWhere = text.where();
            int loan = -1;
            if (borrowed) {
                binary(1, depth);
            } else {
                value(depth);
            }
            if (types.kind[type] != IS_ENUM) {
                text.fail(NO_TYPE, expWhere);
            }
            if (text.fault == 0 && borrowed) {
                loan = lend(isUnique);
            }
            if (text.fault != 0) {
                return false;
            }
            text.step(1);
            boolean returns = arms(type, loan, isUnique, where, depth + 2);
            text.step(1);
            return returns;
        }

        private boolean arms(int matched, int loan, boolean isUnique, int where, int depth) {
            int shape = matched - FIRST_SHAPE;
            int total = types.variants[shape];
            int table = code.newArms(total);
            int end = code.newLabel();
            int seen = 0;
            boolean returns = true;
            code.add(DO_SWITCH, table, loan < 0 ? types.size[matched] : 0, total, -1);
            for (int i = 0; i < MOST_TOKENS && text.kind() == NAME; i++) {
                int tag = types.variantOf(shape, text.names[text.now]);
                if (tag < 0 || (seen >> tag & 1) == 1) {
                    text.fail(NO_NAME, text.where());
                    return false;
                }
                seen |= 1 << tag;
                code.armLabels[table + tag] = code.newLabel();
                code.setLabel(DO_LABEL, code.armLabels[table + tag]);
                boolean itReturns = arm(matched, tag, loan, isUnique, depth);
                returns = returns && itReturns;
                code.add(DO_JUMP, end);
            }
            if (seen != (1 << total) - 1) {
                text.fail(NO_TYPE, where);
            }
            code.setLabel(DO_LABEL, end);
            return returns;
        }

        private boolean arm(int matched, int tag, int loan, boolean isUnique, int depth) {
            int row = types.rowOf(matched - FIRST_SHAPE, tag);
            int first = function.variables;
            int where = text.where();
            text.step(1);
            int given = text.kind() == '(' ? text.links[text.now] : 0;
            if (given != types.parts[row]) {
                text.fail(NO_TYPE, where);
                return false;
            }
            for (int i = 0; i < given; i++) {
                text.step(1);
                bind(row * MOST_PARTS + i, matched, loan, isUnique);
                text.step(1);
            }
            if (given > 0) {
                text.step(1);
            }
            code.add(DO_POP, loan < 0 ? types.size[matched] : 1);
            text.step(1);
            return block(first, depth);
        }

        private void bind(int part, int matched, int loan, boolean isUnique) {
            int v = function.declare(text.names[text.now], false, code.total);
            int partType = types.partType[part];
            if (loan < 0) {
                function.settle(v, partType, types.size[partType]);
                code.add(DO_BIND, v, types.partOffset[part], types.size[matched], -1);
            } else {
                function.settle(v, types.referenceTo(partType, isUnique), 1);
                code.add(DO_BIND_REFERENCE, v, types.partOffset[part], loan, -1);
            }
        }

        private boolean giveBack(int depth) {
            int where = text.where();
            int got = NOTHING_TYPE;
            int expWhere = -1;
            text.step(1);
            boolean hasExp = text.kind() != ';';
            if (hasExp) {
                expWhere = text.where();
                got = value(depth);
            }
            if (got != function.result) {
                text.fail(NO_TYPE, hasExp ? expWhere : where);
            }
            code.add(DO_RETURN, got, hasExp ? 1 : 0, expWhere, where);
            text.step(1);
            return true;
        }

        private void print(int depth) {
            text.step(1);
            int where = text.where();
            int got = value(depth);
            if (got != INT_TYPE && got != BOOL_TYPE) {
                text.fail(NO_TYPE, where);
            }
            code.add(DO_PRINT, got);
            text.step(1);
        }

        /** The type of the exp, which is used as a value. */
        private int value(int depth) {
            binary(1, depth);
            use();
            return type;
        }

        /** An exp that has to be of that type. */
        private void fitting(int wanted, int depth) {
            int where = text.where();
            int got = value(depth);
            if (got != wanted) {
                text.fail(NO_TYPE, where);
            }
        }

        /** A place that is assigned what was written last, of that type, at that exp. */
        private void assign(int got, int expWhere) {
            if (got != type) {
                text.fail(NO_TYPE, expWhere);
            } else if (length > 0 && !isMutable) {
                text.fail(NO_TYPE, from);
            }
            code.add(DO_ASSIGN, code.addPlace(variable, path, length, route, type, types.size[type], from));
        }

        private void startPlace(int v, int where) {
            isPlace = true;
            variable = v;
            path = 0;
            length = 0;
            route = 0;
            type = function.type[v];
            isMutable = function.mutable[v];
            from = where;
        }

        private void use() {
            if (!isPlace || text.fault != 0) {
                return;
            }
            isPlace = false;
            boolean isCopied = types.isCopied(type);
            if (!isCopied && !isMovable()) {
                text.fail(NO_TYPE, from);
                return;
            }
            int place = code.addPlace(variable, path, length, route, type, types.size[type], from);
            code.add(isCopied ? DO_COPY : DO_MOVE, place);
        }

        private boolean isMovable() {
            int stars = route & 15;
            boolean starIsLast = length > 0 && path >> 4 * (length - 1) == STAR_STEP;
            return stars == 0 || stars == 1 && starIsLast && !types.isReference(function.type[variable]);
        }

        private void give(int itsType) {
            isPlace = false;
            type = itsType;
        }

        private void binary(int least, int depth) {
            unary(depth);
            for (int i = 0; i < MOST_TOKENS && levelOf(text.kind()) >= least; i++) {
                int sign = text.kind();
                int where = text.where();
                use();
                int left = type;
                int label = sign == AND || sign == OR ? code.newLabel() : -1;
                if (label >= 0) {
                    code.add(sign == AND ? DO_AND : DO_OR, label);
                }
                text.step(1);
                binary(levelOf(sign) + 1, depth + 1);
                use();
                operate(sign, where, left);
                if (label >= 0) {
                    code.setLabel(DO_LABEL, label);
                }
            }
        }

        private void operate(int sign, int where, int left) {
            int level = levelOf(sign);
            boolean ofBools = left == BOOL_TYPE && type == BOOL_TYPE;
            boolean ofInts = left == INT_TYPE && type == INT_TYPE;
            boolean fits = level <= 2 ? ofBools : ofInts || ofBools && (sign == SAME || sign == DIFFERENT);
            if (!fits) {
                text.fail(NO_TYPE, where);
            }
            if (level > 2) {
                code.add(DO_OPERATE, sign);
            }
            give(level <= 3 ? BOOL_TYPE : INT_TYPE);
        }

        private void unary(int depth) {
            int sign = text.kind();
            int where = text.where();
            if (depth > NESTING) {
                return;
            }
            if (sign != '!' && sign != '-' && sign != '*' && sign != '&' && sign != BOX) {
                suffixed(depth);
                return;
            }
            text.step(1);
            boolean isUnique = sign == '&' && text.take(MUT);
            unary(depth + 1);
            if (text.fault != 0) {
                return;
            }
            if (sign == '*') {
                star(where);
            } else if (sign == '&') {
                borrow(isUnique, where);
            } else {
                use();
                applySign(sign, where);
            }
        }

        private void applySign(int sign, int where) {
            if (sign == BOX) {
                if (type == NOTHING_TYPE || types.isReference(type)) {
                    text.fail(NO_TYPE, where);
                }
                code.add(DO_BOX, type);
                give(types.boxOf(type));
                return;
            }
            int wanted = sign == '!' ? BOOL_TYPE : INT_TYPE;
            if (type != wanted) {
                text.fail(NO_TYPE, where);
            }
            code.add(sign == '!' ? DO_NOT : DO_NEGATE, 0);
            give(wanted);
        }

        private void star(int where) {
            int kind = types.kind[type];
            if (!isPlace || kind != IS_BOX && !types.isReference(type) || length == MOST_STEPS_ON_A_PLACE) {
                text.fail(NO_TYPE, where);
                return;
            }
            path |= STAR_STEP << 4 * length;
            length++;
            route++;
            isMutable = kind == IS_UNIQUE || kind == IS_BOX && isMutable;
            type = types.of[type];
            from = where;
        }

        private void borrow(boolean isUnique, int where) {
            if (!isPlace || types.isReference(type)) {
                text.fail(NO_TYPE, where);
                return;
            }
            lend(isUnique);
            give(types.referenceTo(type, isUnique));
        }

        private int lend(boolean isUnique) {
            if (isUnique && !isMutable) {
                text.fail(NO_TYPE, from);
            }
            int loan = function.borrows;
            function.borrows++;
            int place = code.addPlace(variable, path, length, route, type, types.size[type], from);
            code.add(DO_BORROW, place, loan, isUnique ? 1 : 0, -1);
            isPlace = false;
            return loan;
        }

        private void suffixed(int depth) {
            primary(depth);
            for (int i = 0; i < MOST_MEMBERS && text.take('.'); i++) {
                member(text.names[text.now], text.where());
                text.step(1);
            }
        }

        private void member(int name, int where) {
            if (!isPlace || types.kind[type] != IS_STRUCT) {
                text.fail(NO_TYPE, where);
                return;
            }
            int row = types.rowOf(type - FIRST_SHAPE, 0);
            int field = types.partOf(row, name);
            if (field < 0) {
                text.fail(NO_NAME, where);
                return;
            }
            if (length == MOST_STEPS_ON_A_PLACE) {
                text.fail(NO_TYPE, where);
                return;
            }
            int part = row * MOST_PARTS + field;
            path |= field + 1 << 4 * length;
            length++;
            route += types.partOffset[part] << 4 + 4 * (route & 15);
            type = types.partType[part];
        }

        private void primary(int depth) {
            int where = text.where();
            give(NOTHING_TYPE);
            switch (text.kind()) {
                case NUMBER: number(text.numbers[text.now], INT_TYPE); break;
                case TRUE: number(1, BOOL_TYPE); break;
                case FALSE: number(0, BOOL_TYPE); break;
                case NAME: named(depth, where); break;
                case NEW: build(depth, where); break;
                case READ:
                    code.add(DO_READ, 0);
                    give(INT_TYPE);
                    text.step(1);
                    break;
                case '(':
                    text.step(1);
                    binary(1, depth + 1);
                    text.step(1);
                    from = where;
                    break;
                case TOKEN:
                    text.step(2);
                    if (value(depth + 1) != INT_TYPE) {
                        text.fail(NO_TYPE, where);
                    }
                    text.step(1);
                    give(TOKEN_TYPE);
                    break;
                default: break;
            }
        }

        private void number(long value, int itsType) {
            code.addNumber(value);
            give(itsType);
            text.step(1);
        }

        private void named(int depth, int where) {
            int next = text.kindBehind(1);
            if (next == '(') {
                call(depth, where);
            } else if (next == PATH) {
                variant(depth, where);
            } else {
                variableNamed(text.names[text.now], where);
            }
        }

        private void variableNamed(int name, int where) {
            int v = function.find(name);
            if (v < 0) {
                text.fail(NO_NAME, where);
            } else if (function.type[v] == UNKNOWN) {
                text.fail(NO_TYPE, where);
            } else {
                startPlace(v, where);
                text.step(1);
            }
        }

        private void call(int depth, int where) {
            int index = declared.functionOf(text.names[text.now]);
            if (index < 0) {
                text.fail(NO_NAME, where);
                return;
            }
            Function called = declared.functions[index];
            text.step(1);
            if (text.links[text.now] != called.parameters) {
                text.fail(NO_TYPE, where);
            }
            text.step(1);
            for (int i = 0; i < called.parameters && text.fault == 0; i++) {
                fitting(called.type[i], depth + 1);
                text.take(',');
            }
            text.step(1);
            code.add(DO_CALL, index);
            give(called.result);
        }

        private void variant(int depth, int where) {
            int shape = declared.shapeOf(text.names[text.now], IS_ENUM);
            if (shape < 0) {
                text.fail(NO_NAME, where);
                return;
            }
            text.step(2);
            int tag = types.variantOf(shape, text.names[text.now]);
            if (tag < 0) {
                text.fail(NO_NAME, text.where());
                return;
            }
            text.step(1);
            int row = types.rowOf(shape, tag);
            int given = text.kind() == '(' ? text.links[text.now] : 0;
            if (given != types.parts[row]) {
                text.fail(NO_TYPE, where);
            }
            code.add(DO_TAG, tag);
            int filled = 1;
            text.take('(');
            for (int i = 0; i < given && text.fault == 0; i++) {
                int wanted = types.partType[row * MOST_PARTS + i];
                fitting(wanted, depth + 1);
                filled += types.size[wanted];
                text.step(1);
            }
            code.add(DO_PAD, types.size[FIRST_SHAPE + shape] - filled, given, 0, -1);
            give(FIRST_SHAPE + shape);
        }

        private void build(int depth, int where) {
            text.step(1);
            int shape = declared.shapeOf(text.names[text.now], IS_STRUCT);
            if (shape < 0) {
                text.fail(NO_NAME, text.where());
                return;
            }
            int row = types.rowOf(shape, 0);
            int size = types.size[FIRST_SHAPE + shape];
            int seen = 0;
            text.step(2);
            code.add(DO_NEW, size);
            for (int i = 0; i < MOST_TOKENS && text.kind() == NAME; i++) {
                int field = types.partOf(row, text.names[text.now]);
                if (field < 0 || (seen >> field & 1) == 1) {
                    text.fail(NO_NAME, text.where());
                    return;
                }
                seen |= 1 << field;
                text.step(2);
                int part = row * MOST_PARTS + field;
                fitting(types.partType[part], depth + 1);
                code.add(DO_FIELD, types.partOffset[part], types.size[types.partType[part]], size, -1);
                text.take(',');
            }
            text.step(1);
            if (seen != (1 << types.parts[row]) - 1) {
                text.fail(NO_TYPE, where);
            }
            give(FIRST_SHAPE + shape);
        }
    }

    /** Finds uses of what may be without a value, by going all ways through a function until nothing new comes. */
    private static final class Moves {
        private final Types types;
        private final Code code;
        private Function function;
        /** Of each variable, cell by cell: below may be without a value, above may have one. */
        private final int[] state = new int[MOST_VARIABLES];
        private final int[] rows = new int[MOST_LABELS * MOST_VARIABLES];
        private final boolean[] reached = new boolean[MOST_LABELS];
        private boolean isReached;
        private boolean again;
        private int first;

        Moves(Types types, Code code) {
            this.types = types;
            this.code = code;
        }

        /** Where the first fault is, or -1. */
        int firstFault(Function itsFunction) {
            function = itsFunction;
            first = -1;
            Arrays.fill(rows, function.labelFrom * MOST_VARIABLES, function.labelTo * MOST_VARIABLES, 0);
            for (int label = function.labelFrom; label < function.labelTo; label++) {
                reached[label] = false;
            }
            again = true;
            for (int round = 0; round < MOST_ROUNDS && again; round++) {
                again = false;
                pass();
            }
            return first;
        }

        private void pass() {
            isReached = true;
            for (int v = 0; v < function.variables; v++) {
                state[v] = v < function.parameters ? full(v) << 16 : 0;
            }
            for (int i = function.codeFrom; i < function.codeTo; i++) {
                if (code.op[i] == DO_LABEL || code.op[i] == DO_HEAD) {
                    join(code.a[i]);
                } else if (isReached) {
                    look(i);
                }
            }
        }

        private int full(int v) {
            return function.type[v] == UNKNOWN ? 0 : (1 << types.size[function.type[v]]) - 1;
        }

        private void look(int i) {
            int a = code.a[i];
            switch (code.op[i]) {
                case DO_COPY: case DO_BORROW:
                    use(a);
                    break;
                case DO_MOVE:
                    use(a);
                    lose(code.placeVariable[a], code.placeCells[a]);
                    break;
                case DO_LET: case DO_BIND: case DO_BIND_REFERENCE:
                    state[a] = full(a) << 16;
                    break;
                case DO_LET_NONE:
                    state[a] = full(a);
                    break;
                case DO_ASSIGN: assign(a); break;
                default: flow(i);
            }
        }

        private void flow(int i) {
            int label = code.a[i];
            switch (code.op[i]) {
                case DO_UNLESS: case DO_AND: case DO_OR:
                    send(label);
                    break;
                case DO_JUMP:
                    send(label);
                    isReached = false;
                    break;
                case DO_LOOP:
                    again = send(label) || again;
                    isReached = false;
                    break;
                case DO_SWITCH:
                    for (int k = 0; k < code.c[i]; k++) {
                        send(code.armLabels[code.a[i] + k]);
                    }
                    isReached = false;
                    break;
                case DO_RETURN:
                    isReached = false;
                    break;
                default: break;
            }
        }

        private void use(int place) {
            if ((state[code.placeVariable[place]] & code.placeCells[place]) != 0) {
                tell(place);
            }
        }

        private void lose(int v, int cells) {
            state[v] = (state[v] | cells) & ~(cells << 16);
        }

        private void assign(int place) {
            int v = code.placeVariable[place];
            if (code.hasStars(place)) {
                use(place);
                return;
            }
            if (code.placeLength[place] == 0 && !function.mutable[v] && state[v] >>> 16 != 0) {
                tell(place);
            }
            int cells = code.placeCells[place];
            state[v] = state[v] & ~cells | cells << 16;
        }

        private void tell(int place) {
            int where = code.placeWhere[place];
            if (first < 0 || where < first) {
                first = where;
            }
        }

        /** Whether the label learns something. */
        private boolean send(int label) {
            boolean isNew = !reached[label];
            int row = label * MOST_VARIABLES;
            for (int v = 0; v < function.variables; v++) {
                int sum = rows[row + v] | state[v];
                isNew = isNew || sum != rows[row + v];
                rows[row + v] = sum;
            }
            reached[label] = true;
            return isNew;
        }

        private void join(int label) {
            if (!reached[label]) {
                return;
            }
            int row = label * MOST_VARIABLES;
            for (int v = 0; v < function.variables; v++) {
                state[v] = isReached ? state[v] | rows[row + v] : rows[row + v];
            }
            isReached = true;
        }
    }

    /** Finds accesses that meet a loan which is alive, and returns that hold an outer loan which they may not. */
    private static final class Loans {
        private final Types types;
        private final Code code;
        private final Declarations declared;
        private Function function;
        /** Of each instruction: the variables that by some way behind it are used ahead of being assigned. */
        private final long[] usedBehind = new long[MOST_CODE];
        private final long[] usedAt = new long[MOST_LABELS];
        /** Of each variable: the loans that it may hold, outer ones too. */
        private final long[] held = new long[MOST_VARIABLES];
        private final long[] rows = new long[MOST_LABELS * MOST_VARIABLES];
        private final boolean[] reached = new boolean[MOST_LABELS];
        private final long[] temps = new long[MOST_TEMPS];
        private int tempTotal;
        private final int[] placeOf = new int[MOST_BORROWS];
        private final long[] heldByLoan = new long[MOST_BORROWS];
        private final long[] loansOn = new long[MOST_VARIABLES];
        private long sharedLoans;
        private boolean isReached;
        private boolean again;
        private int first;

        Loans(Types types, Code code, Declarations declared) {
            this.types = types;
            this.code = code;
            this.declared = declared;
        }

        /** Where the first fault is, or -1. */
        int firstFault(Function itsFunction) {
            function = itsFunction;
            first = -1;
            if (function.borrows == 0 && !types.isReference(function.result)) {
                return first;
            }
            gatherLoans();
            findUses();
            Arrays.fill(rows, function.labelFrom * MOST_VARIABLES, function.labelTo * MOST_VARIABLES, 0L);
            for (int label = function.labelFrom; label < function.labelTo; label++) {
                reached[label] = false;
            }
            again = true;
            for (int round = 0; round < MOST_ROUNDS && again; round++) {
                again = false;
                pass();
            }
            return first;
        }

        private void gatherLoans() {
            sharedLoans = 0;
            Arrays.fill(loansOn, 0L);
            for (int i = function.codeFrom; i < function.codeTo; i++) {
                if (code.op[i] == DO_BORROW) {
                    long loan = 1L << code.b[i];
                    placeOf[code.b[i]] = code.a[i];
                    loansOn[code.placeVariable[code.a[i]]] |= loan;
                    sharedLoans |= code.c[i] == 0 ? loan : 0;
                }
            }
        }

        private void findUses() {
            Arrays.fill(usedAt, function.labelFrom, function.labelTo, 0L);
            again = true;
            for (int round = 0; round < MOST_ROUNDS && again; round++) {
                again = false;
                long used = 0;
                for (int i = function.codeTo - 1; i >= function.codeFrom; i--) {
                    usedBehind[i] = used;
                    used = usedAhead(i, used);
                }
            }
        }

        private long usedAhead(int i, long used) {
            int a = code.a[i];
            switch (code.op[i]) {
                case DO_COPY: case DO_MOVE: case DO_BORROW:
                    return used | 1L << code.placeVariable[a];
                case DO_ASSIGN: {
                    long v = 1L << code.placeVariable[a];
                    return code.hasStars(a) ? used | v : code.placeLength[a] == 0 ? used & ~v : used;
                }
                case DO_LET: case DO_LET_NONE: case DO_BIND: case DO_BIND_REFERENCE:
                    return used & ~(1L << a);
                case DO_SCOPE:
                    return used & ~((1L << code.b[i]) - (1L << a));
                case DO_HEAD:
                    again = again || usedAt[a] != used;
                    usedAt[a] = used;
                    return used;
                case DO_LABEL:
                    usedAt[a] = used;
                    return used;
                case DO_UNLESS: case DO_AND: case DO_OR:
                    return used | usedAt[a];
                case DO_JUMP: case DO_LOOP:
                    return usedAt[a];
                case DO_SWITCH: return usedInArms(i);
                case DO_RETURN: return 0;
                default: return used;
            }
        }

        private long usedInArms(int i) {
            long used = 0;
            for (int k = 0; k < code.c[i]; k++) {
                used |= usedAt[code.armLabels[code.a[i] + k]];
            }
            return used;
        }

        private void pass() {
            isReached = true;
            tempTotal = 0;
            for (int v = 0; v < function.variables; v++) {
                boolean isOuter = v < function.parameters && types.isReference(function.type[v]);
                held[v] = isOuter ? outerLoan(function.parameterLife[v]) : 0;
            }
            for (int i = function.codeFrom; i < function.codeTo; i++) {
                if (code.op[i] == DO_LABEL || code.op[i] == DO_HEAD) {
                    join(code.a[i]);
                } else if (isReached) {
                    look(i);
                }
            }
        }

        private static long outerLoan(int life) {
            return 1L << (life < 0 ? OUTER_OF_NONE : FIRST_OUTER + life);
        }

        private void push(long loans) {
            if (tempTotal < MOST_TEMPS) {
                temps[tempTotal] = loans;
                tempTotal++;
            }
        }

        private long pop(int total) {
            long loans = 0;
            for (int i = 0; i < total && tempTotal > 0; i++) {
                tempTotal--;
                loans |= temps[tempTotal];
            }
            return loans;
        }

        private void look(int i) {
            int a = code.a[i];
            switch (code.op[i]) {
                case DO_NUMBER: case DO_READ: case DO_NEW: case DO_TAG:
                    push(0);
                    break;
                case DO_COPY: case DO_MOVE:
                    access(i, a, code.op[i] == DO_MOVE);
                    push(types.isReference(code.placeType[a]) ? held[code.placeVariable[a]] : 0);
                    break;
                case DO_BORROW: borrow(i); break;
                case DO_OPERATE: case DO_FIELD: case DO_DROP: case DO_PRINT:
                    pop(1);
                    break;
                case DO_PAD: pop(code.b[i]); break;
                case DO_LET: held[a] = pop(1); break;
                case DO_LET_NONE: case DO_BIND: held[a] = 0; break;
                case DO_BIND_REFERENCE: held[a] = heldByLoan[code.c[i]]; break;
                case DO_ASSIGN: assign(i); break;
                case DO_CALL: call(declared.functions[a]); break;
                case DO_SCOPE: leave(i); break;
                case DO_RETURN: giveBack(i); break;
                default: flow(i);
            }
        }

        private void flow(int i) {
            int label = code.a[i];
            switch (code.op[i]) {
                case DO_UNLESS: case DO_AND: case DO_OR:
                    pop(1);
                    send(label);
                    break;
                case DO_JUMP:
                    send(label);
                    isReached = false;
                    break;
                case DO_LOOP:
                    again = send(label) || again;
                    isReached = false;
                    break;
                case DO_SWITCH:
                    pop(1);
                    for (int k = 0; k < code.c[i]; k++) {
                        send(code.armLabels[code.a[i] + k]);
                    }
                    isReached = false;
                    break;
                default: break;
            }
        }

        private void borrow(int i) {
            int place = code.a[i];
            int v = code.placeVariable[place];
            access(i, place, code.c[i] == 1);
            // Only a variable can be a reference, so a place goes through one at its first star or never.
            long loans = 1L << code.b[i] | (types.isReference(function.type[v]) ? held[v] : 0);
            heldByLoan[code.b[i]] = loans;
            push(loans);
        }

        private void assign(int i) {
            int place = code.a[i];
            long loans = pop(1);
            if (types.isReference(code.placeType[place])) {
                held[code.placeVariable[place]] = loans;
            } else {
                access(i, place, true);
            }
        }

        private void call(Function called) {
            long loans = 0;
            for (int p = called.parameters - 1; p >= 0; p--) {
                long itsLoans = pop(1);
                if (called.resultLife < 0 || called.parameterLife[p] == called.resultLife) {
                    loans |= itsLoans;
                }
            }
            push(types.isReference(called.result) ? loans : 0);
        }

        private void leave(int i) {
            for (int v = code.b[i] - 1; v >= code.a[i]; v--) {
                if (!types.isReference(function.type[v]) && (loansOn[v] & aliveBehind(i)) != 0) {
                    tell(code.where[i]);
                }
                held[v] = 0;
            }
        }

        private void giveBack(int i) {
            long loans = code.b[i] == 1 ? pop(1) : 0;
            if (function.resultLife >= 0) {
                long others = loans >>> FIRST_OUTER << FIRST_OUTER & ~outerLoan(function.resultLife);
                if (others != 0) {
                    tell(code.c[i]);
                }
            }
            for (int v = function.variables - 1; v >= 0; v--) {
                boolean isInScope = function.from[v] <= i && i < function.to[v];
                if (isInScope && !types.isReference(function.type[v]) && (loansOn[v] & loans) != 0) {
                    tell(code.where[i]);
                }
            }
            isReached = false;
        }

        private long aliveBehind(int i) {
            long alive = 0;
            for (int t = 0; t < tempTotal; t++) {
                alive |= temps[t];
            }
            for (int v = 0; v < function.variables; v++) {
                if ((usedBehind[i] >>> v & 1) == 1) {
                    alive |= held[v];
                }
            }
            return alive;
        }

        private void access(int i, int place, boolean meetsShared) {
            long near = loansOn[code.placeVariable[place]];
            if (!meetsShared) {
                near &= ~sharedLoans;
            }
            if (near == 0) {
                return;
            }
            near &= aliveBehind(i);
            for (int loan = 0; loan < function.borrows; loan++) {
                if ((near >>> loan & 1) == 1 && overlap(place, placeOf[loan])) {
                    tell(code.placeWhere[place]);
                }
            }
        }

        /** Of two places of one variable: whether one lies on the other's way. */
        private boolean overlap(int one, int other) {
            int common = Math.min(code.placeLength[one], code.placeLength[other]);
            int mask = (1 << 4 * common) - 1;
            return ((code.placePath[one] ^ code.placePath[other]) & mask) == 0;
        }

        private void tell(int where) {
            if (first < 0 || where < first) {
                first = where;
            }
        }

        /** Whether the label learns something. */
        private boolean send(int label) {
            boolean isNew = !reached[label];
            int row = label * MOST_VARIABLES;
            for (int v = 0; v < function.variables; v++) {
                long sum = rows[row + v] | held[v];
                isNew = isNew || sum != rows[row + v];
                rows[row + v] = sum;
            }
            reached[label] = true;
            return isNew;
        }

        private void join(int label) {
            if (!reached[label]) {
                return;
            }
            int row = label * MOST_VARIABLES;
            for (int v = 0; v < function.variables; v++) {
                held[v] = isReached ? held[v] | rows[row + v] : rows[row + v];
            }
            isReached = true;
        }
    }

    /** The cells: the heap's ahead, the frames' behind them; and what is dropped of them. */
    private static final class Memory {
        private final Types types;
        private final Queue waiting;
        private final int heap;
        long[] cells;
        private final byte[] taken;
        private int lowest;
        int inUse;
        int mostInUse;
        // What is still to be dropped lies in different cells, of the heap or of one value.
        private final int[] dropType = new int[MOST_HEAP + 4 * MOST_CELLS];
        private final int[] dropAt = new int[MOST_HEAP + 4 * MOST_CELLS];
        private final int[] dropCells = new int[MOST_HEAP + 4 * MOST_CELLS];
        private int dropTotal;

        Memory(Types types, Queue waiting, int heap) {
            this.types = types;
            this.waiting = waiting;
            this.heap = heap;
            cells = new long[heap + FIRST_STACK];
            taken = new byte[heap];
        }

        void clear() {
            Arrays.fill(taken, (byte) 0);
            lowest = 0;
            inUse = 0;
            mostInUse = 0;
        }

        int stackBegin() {
            return heap;
        }

        void makeRoom(int end) {
            if (end > cells.length) {
                cells = Arrays.copyOf(cells, Math.max(end, 2 * cells.length));
            }
        }

        /** The first cell of a block, or -1. */
        int takeBlock(int size) {
            int free = 0;
            for (int i = lowest; i < heap; i++) {
                free = taken[i] == 0 ? free + 1 : 0;
                if (free == size) {
                    int from = i + 1 - size;
                    Arrays.fill(taken, from, i + 1, (byte) 1);
                    // Cells below the block may be free still, unless it begins at the lowest.
                    lowest = from == lowest ? i + 1 : lowest;
                    inUse += size;
                    mostInUse = Math.max(mostInUse, inUse);
                    return from;
                }
            }
            return -1;
        }

        void freeBlock(int from, int size) {
            Arrays.fill(taken, from, from + size, (byte) 0);
            lowest = Math.min(lowest, from);
            inUse -= size;
        }

        /** Drops the parts of a value that are among these cells of it. */
        void drop(int type, int at, int parts) {
            dropTotal = 0;
            pushDrop(type, at, parts);
            for (int i = 0; i < MOST_ROUNDS && dropTotal > 0; i++) {
                dropTotal--;
                int itsType = dropType[dropTotal];
                int itsAt = dropAt[dropTotal];
                int kind = types.kind[itsType];
                if (kind == IS_STRUCT) {
                    dropParts(types.rowOf(itsType - FIRST_SHAPE, 0), itsAt, dropCells[dropTotal]);
                } else if ((dropCells[dropTotal] & 1) == 0) {
                    continue;
                } else if (kind == IS_ENUM) {
                    dropParts(types.rowOf(itsType - FIRST_SHAPE, (int) cells[itsAt]), itsAt, ALL_CELLS);
                } else if (kind == IS_TOKEN) {
                    waiting.put('d');
                    waiting.putNumber(cells[itsAt]);
                    waiting.put('\n');
                } else {
                    // No block is taken until all is dropped, so its cells stay as they are.
                    int block = (int) cells[itsAt];
                    freeBlock(block, types.size[types.of[itsType]]);
                    pushDrop(types.of[itsType], block, ALL_CELLS);
                }
            }
        }

        private void pushDrop(int type, int at, int parts) {
            if (types.drops[type] && parts != 0 && dropTotal < dropType.length) {
                dropType[dropTotal] = type;
                dropAt[dropTotal] = at;
                dropCells[dropTotal] = parts;
                dropTotal++;
            }
        }

        private void dropParts(int row, int at, int parts) {
            for (int i = types.parts[row] - 1; i >= 0; i--) {
                int part = row * MOST_PARTS + i;
                int offset = types.partOffset[part];
                pushDrop(types.partType[part], at + offset, parts >> offset);
            }
        }
    }

    /** Runs the code. */
    private static final class Machine {
        private final Code code;
        private final Types types;
        private final Declarations declared;
        private final Memory memory;
        private final Queue numbers;
        private final Queue waiting;
        int fuel;
        private int fault;
        private boolean isRunning;
        private int next;
        private int base;
        private int top;
        private int calls;
        private Function function;
        private final Function[] callers = new Function[MOST_CALLS];
        private final int[] callerNext = new int[MOST_CALLS];
        private final int[] callerBase = new int[MOST_CALLS];
        /** Of each call's variables: the cells that have a value. */
        private final int[] filled = new int[MOST_CALLS * MOST_VARIABLES];
        private int filledBase;

        Machine(Code code, Types types, Declarations declared, Memory memory, Queue numbers, Queue waiting) {
            this.code = code;
            this.types = types;
            this.declared = declared;
            this.memory = memory;
            this.numbers = numbers;
            this.waiting = waiting;
        }

        /** 0, or the fault. */
        int execute(int main, int itsFuel) {
            fuel = itsFuel;
            fault = 0;
            isRunning = true;
            calls = 0;
            base = memory.stackBegin();
            top = base;
            call(main);
            for (int i = 0; i < MOST_INSTRUCTIONS && isRunning; i++) {
                int now = next;
                next++;
                if (code.op[now] < FIRST_FLOW) {
                    workOnValues(now);
                } else if (code.op[now] < FIRST_EFFECT) {
                    go(now);
                } else {
                    workOnVariables(now);
                }
            }
            return fault;
        }

        private void stop(int itsFault) {
            fault = itsFault;
            isRunning = false;
        }

        private void push(long value) {
            memory.cells[top] = value;
            top++;
        }

        private void pushFrom(int address, int size) {
            System.arraycopy(memory.cells, address, memory.cells, top, size);
            top += size;
        }

        private void popTo(int address, int size) {
            top -= size;
            System.arraycopy(memory.cells, top, memory.cells, address, size);
        }

        private int addressOf(int place) {
            int route = code.placeRoute[place];
            int address = base + function.offset[code.placeVariable[place]] + (route >> 4 & 15);
            int stars = route & 15;
            for (int i = 1; i <= stars; i++) {
                address = (int) memory.cells[address] + (route >> 4 + 4 * i & 15);
            }
            return address;
        }

        private void workOnValues(int now) {
            long[] cells = memory.cells;
            int a = code.a[now];
            int b = code.b[now];
            switch (code.op[now]) {
                case DO_NUMBER: push((long) a << 32 | b & 0xFFFFFFFFL); break;
                case DO_READ: push(numbers.take()); break;
                case DO_COPY: pushFrom(addressOf(a), types.size[code.placeType[a]]); break;
                case DO_MOVE: move(a); break;
                case DO_BORROW: push(addressOf(a)); break;
                case DO_NOT: cells[top - 1] ^= 1; break;
                case DO_OPERATE: operate(a); break;
                case DO_BOX: box(types.size[a]); break;
                case DO_NEW: top += a; break;
                case DO_FIELD: popTo(top - b - code.c[now] + a, b); break;
                case DO_TAG: push(a); break;
                case DO_PAD: top += a; break;
                case DO_NEGATE:
                    if (cells[top - 1] == LEAST_LONG) {
                        stop(PANIC);
                    } else {
                        cells[top - 1] = -cells[top - 1];
                    }
                    break;
                default: break;
            }
        }

        private void move(int place) {
            int address = addressOf(place);
            int size = types.size[code.placeType[place]];
            pushFrom(address, size);
            filled[filledBase + code.placeVariable[place]] &= ~code.placeCells[place];
            if (code.hasStars(place)) {
                memory.freeBlock(address, size);
            }
        }

        private void box(int size) {
            int block = memory.takeBlock(size);
            if (block < 0) {
                stop(NO_ROOM);
                return;
            }
            popTo(block, size);
            push(block);
        }

        private void operate(int sign) {
            long right = memory.cells[top - 1];
            long left = memory.cells[top - 2];
            if (levelOf(sign) > 3 && isBeyond(sign, left, right)) {
                stop(PANIC);
                return;
            }
            top--;
            memory.cells[top - 1] = resultOf(sign, left, right);
        }

        private static boolean isBeyond(int sign, long left, long right) {
            switch (sign) {
                case '+': {
                    long sum = left + right;
                    return ((left ^ sum) & (right ^ sum)) < 0;
                }
                case '-': return ((left ^ right) & (left ^ left - right)) < 0;
                case '*':
                    if (left == -1) {
                        return right == LEAST_LONG;
                    }
                    return left != 0 && left * right / left != right;
                default: return right == 0 || left == LEAST_LONG && right == -1;
            }
        }

        private static long resultOf(int sign, long left, long right) {
            switch (sign) {
                case '+': return left + right;
                case '-': return left - right;
                case '*': return left * right;
                case '/': return right == 0 ? 0 : left / right;
                case '%': return right == 0 ? 0 : left % right;
                case SAME: return left == right ? 1 : 0;
                case DIFFERENT: return left != right ? 1 : 0;
                case '<': return left < right ? 1 : 0;
                case AT_MOST: return left <= right ? 1 : 0;
                case '>': return left > right ? 1 : 0;
                default: return left >= right ? 1 : 0;
            }
        }

        private void go(int now) {
            long[] cells = memory.cells;
            int a = code.a[now];
            switch (code.op[now]) {
                case DO_LOOP: case DO_JUMP:
                    next = code.labelAt[a];
                    break;
                case DO_UNLESS:
                    top--;
                    next = cells[top] == 0 ? code.labelAt[a] : next;
                    break;
                case DO_AND: shortcut(a, 0); break;
                case DO_OR: shortcut(a, 1); break;
                case DO_CALL: call(a); break;
                case DO_RETURN: giveBack(types.size[a]); break;
                case DO_FUEL: burn(); break;
                case DO_SWITCH: {
                    int size = code.b[now];
                    long tag = size == 0 ? cells[(int) cells[top - 1]] : cells[top - size];
                    next = code.labelAt[code.armLabels[a + (int) tag]];
                    break;
                }
                default: break;
            }
        }

        /** The left side stays, if it tells; otherwise the right one comes in its place. */
        private void shortcut(int label, int telling) {
            if (memory.cells[top - 1] == telling) {
                next = code.labelAt[label];
            } else {
                top--;
            }
        }

        private boolean burn() {
            if (fuel == 0) {
                stop(NO_FUEL);
                return false;
            }
            fuel--;
            return true;
        }

        private void call(int index) {
            if (!burn()) {
                return;
            }
            if (calls == MOST_CALLS) {
                stop(TOO_DEEP);
                return;
            }
            callers[calls] = function;
            callerNext[calls] = next;
            callerBase[calls] = base;
            filledBase = calls * MOST_VARIABLES;
            calls++;
            function = declared.functions[index];
            next = function.codeFrom;
            // The arguments are where the parameters are to be.
            base = top - function.argumentCells;
            top = base + function.cells;
            memory.makeRoom(top + FRAME_MOST);
            for (int v = 0; v < function.variables; v++) {
                filled[filledBase + v] = v < function.parameters ? cellsOf(v) : 0;
            }
        }

        private int cellsOf(int v) {
            return (1 << types.size[function.type[v]]) - 1;
        }

        private void giveBack(int size) {
            int from = top - size;
            dropVariables(0, function.variables);
            System.arraycopy(memory.cells, from, memory.cells, base, size);
            top = base + size;
            calls--;
            function = callers[calls];
            next = callerNext[calls];
            base = callerBase[calls];
            filledBase = Math.max(calls - 1, 0) * MOST_VARIABLES;
            isRunning = calls > 0;
        }

        private void dropVariables(int from, int to) {
            for (int v = to - 1; v >= from; v--) {
                int parts = filled[filledBase + v];
                if (parts != 0) {
                    memory.drop(function.type[v], base + function.offset[v], parts);
                    filled[filledBase + v] = 0;
                }
            }
        }

        private void workOnVariables(int now) {
            int a = code.a[now];
            switch (code.op[now]) {
                case DO_LET: fill(a); break;
                case DO_LET_NONE: filled[filledBase + a] = 0; break;
                case DO_ASSIGN: assign(a); break;
                case DO_PRINT: print(a); break;
                case DO_POP: top -= a; break;
                case DO_SCOPE: dropVariables(a, code.b[now]); break;
                case DO_DROP: {
                    int size = types.size[a];
                    memory.drop(a, top - size, ALL_CELLS);
                    top -= size;
                    break;
                }
                case DO_BIND: {
                    int size = types.size[function.type[a]];
                    int part = top - code.c[now] + code.b[now];
                    System.arraycopy(memory.cells, part, memory.cells, base + function.offset[a], size);
                    filled[filledBase + a] = cellsOf(a);
                    break;
                }
                case DO_BIND_REFERENCE:
                    memory.cells[base + function.offset[a]] = memory.cells[top - 1] + code.b[now];
                    filled[filledBase + a] = 1;
                    break;
                default: break;
            }
        }

        private void fill(int v) {
            popTo(base + function.offset[v], types.size[function.type[v]]);
            filled[filledBase + v] = cellsOf(v);
        }

        private void assign(int place) {
            int type = code.placeType[place];
            int size = types.size[type];
            int address = addressOf(place);
            int parts = ALL_CELLS;
            if (!code.hasStars(place)) {
                int v = filledBase + code.placeVariable[place];
                int cells = code.placeCells[place];
                parts = (filled[v] & cells) >> (code.placeRoute[place] >> 4 & 15);
                filled[v] |= cells;
            }
            memory.drop(type, address, parts);
            popTo(address, size);
        }

        private void print(int type) {
            top--;
            long value = memory.cells[top];
            if (type == INT_TYPE) {
                waiting.putNumber(value);
            } else {
                waiting.putText(value == 1 ? "true" : "false");
            }
            waiting.put('\n');
        }
    }
}
