import java.util.Arrays;

/**
 * A desk that reads texts of declarations in a calculus of dependent types with inductive families, checks each one
 * against those that it accepted before, reckons with terms, and keeps what it accepted.
 */
public final class ProofDesk {
    public static final int NONE = -1;

    private static final int FED_AT_ONCE = 20;
    private static final int MOST_BYTES = 16400;
    private static final int MOST_TEXT = 16384;
    private static final int MOST_FUEL = 10000;
    private static final int MOST_PAPER = 32768;
    private static final int MOST_GLOBALS = 1000;
    private static final int MOST_NODES = 20000;
    private static final int LONGEST_NAME = 40;
    private static final int DEEPEST_TERM = 100;

    // Far above the steps that any fuel or text can ask for: a bound for loops whose end the fuel or the text brings.
    private static final int MANY = 1 << 28;

    // Sorts are levels: Prop is 0, Type i is i + 1.
    private static final int PROP = 0;
    private static final int TYPE_0 = 1;
    private static final int TYPE_99 = 100;

    // Kinds of nodes.
    private static final int VARIABLE = 0;
    private static final int GLOBAL = 1;
    private static final int SORT = 2;
    private static final int REC = 3;
    private static final int APPLY = 4;
    private static final int FUN = 5;
    private static final int ALL = 6;
    private static final int LET = 7;
    private static final int CAST = 8;

    // Kinds of globals, as about() tells them.
    private static final int AXIOM = 0;
    private static final int DEF = 1;
    private static final int LEMMA = 2;
    private static final int FAMILY = 3;
    private static final int CONSTRUCTOR = 4;

    // Outcomes, as verdict() tells them.
    private static final int ACCEPTED = 0;
    private static final int REFUSED = 1;
    private static final int OUT = 2;
    private static final int UNREADABLE = 3;

    // Reasons, as verdict() tells them.
    private static final int MEANS_NOTHING = 1;
    private static final int NAME_TAKEN = 2;
    private static final int NO_SORT = 3;
    private static final int NO_FUNCTION = 4;
    private static final int NO_FIT = 5;
    private static final int NO_NEXT_SORT = 6;
    private static final int NOT_POSITIVE = 7;
    private static final int NO_CONSTRUCTOR_SHAPE = 8;
    private static final int NO_FAMILY_SHAPE = 9;
    private static final int SORT_TOO_GREAT = 10;
    private static final int REC_NOT_ALLOWED = 11;
    private static final int NO_FAMILY = 12;
    private static final int SHELF_FULL = 13;
    private static final int PAPER_FULL = 14;

    // Tokens; the words of WORDS are numbered in its order from WORD_AXIOM on.
    private static final int TEXT_END = 0;
    private static final int NO_TOKEN = 1;
    private static final int NAME = 2;
    private static final int SORT_WORD = 3;
    private static final int OPENING = 4;
    private static final int CLOSING = 5;
    private static final int COLON = 6;
    private static final int BECOMES = 7;
    private static final int DOUBLE_ARROW = 8;
    private static final int ARROW = 9;
    private static final int COMMA = 10;
    private static final int DOT = 11;
    private static final int BAR = 12;
    private static final int WORD_AXIOM = 13;
    private static final int WORD_DEF = 14;
    private static final int WORD_LEMMA = 15;
    private static final int WORD_DATA = 16;
    private static final int WORD_CHECK = 17;
    private static final int WORD_NORM = 18;
    private static final int WORD_FUN = 19;
    private static final int WORD_ALL = 20;
    private static final int WORD_LET = 21;
    private static final int WORD_IN = 22;
    private static final int WORD_REC = 23;
    private static final int WORD_PROP = 24;
    private static final int WORD_TYPE = 25;
    private static final String WORDS = "axiom def lemma data check norm fun all let in rec Prop Type ";

    // Names that the desk itself gives: to a variable without a name, and to the motive of a rec.
    private static final int NAMELESS = 0;
    private static final int MOTIVE = 1;

    // What is to be done for a declaration; the Typer does those before FIRST_OWN_TASK, the Declarer the others.
    private static final int INFER = 0;
    private static final int NORMALIZE = 1;
    private static final int INSTANTIATE = 2;
    private static final int TAKE_SORT = 3;
    private static final int TAKE_TWIN_SORT = 4;
    private static final int ENTER = 5;
    private static final int NEED_FUNCTION = 6;
    private static final int FIT_ARGUMENT = 7;
    private static final int CLOSE_FUN = 8;
    private static final int CLOSE_ALL = 9;
    private static final int FIT_LET = 10;
    private static final int TAKE_LET = 11;
    private static final int FIT_CAST = 12;
    private static final int DROP = 13;
    private static final int FIRST_OWN_TASK = 14;
    private static final int FIT_VALUE = 14;
    private static final int STORE = 15;
    private static final int PRINT = 16;
    private static final int PARAMETER = 17;
    private static final int SHAPE = 18;
    private static final int INDEX = 19;
    private static final int NEXT_CONSTRUCTOR = 20;
    private static final int ARGUMENT = 21;
    private static final int LIMIT_SORT = 22;
    private static final int BE_POSITIVE = 23;
    private static final int STORE_CONSTRUCTOR = 24;
    private static final int KEEP = 25;
    private static final int EQUIP = 26;

    private final Ledger ledger;
    private final Names names;
    private final Shelf shelf;
    private final Lexer lexer;
    private final Parser parser;
    private final Printer printer;
    private final Declarer declarer;
    private byte[] bytes;
    private int byteCount;

    public ProofDesk() {
        ledger = new Ledger();
        names = new Names();
        shelf = new Shelf(names, new Terms());
        lexer = new Lexer(names);
        parser = new Parser(lexer, shelf, ledger);
        printer = new Printer(names, shelf);
        declarer = new Declarer(parser, new Typer(shelf, ledger), new Reducer(shelf, ledger), printer);
        bytes = new byte[16 * FED_AT_ONCE];
    }

    public int feed(int a, int b, int c, int d, int e) {
        if (byteCount + FED_AT_ONCE > MOST_BYTES) {
            return NONE;
        }
        if (byteCount + FED_AT_ONCE > bytes.length) {
            bytes = Arrays.copyOf(bytes, Math.min(MOST_BYTES, 2 * bytes.length));
        }
        addBytes(a);
        addBytes(b);
        addBytes(c);
        addBytes(d);
        addBytes(e);
        return byteCount;
    }

    private void addBytes(int four) {
        for (int shift = 24; shift >= 0; shift -= 8) {
            bytes[byteCount] = (byte) (four >> shift);
            byteCount++;
        }
    }

    public int end(int n) {
        if (n < 0 || n > byteCount || n > MOST_TEXT) {
            return NONE;
        }
        byteCount = 0;
        ledger.clear();
        lexer.open(bytes, n);
        for (int left = n + 1; left > 0 && parser.readDeclaration(); left--) {
            declarer.judge();
            shelf.dropPending();
        }
        if (parser.failed()) {
            ledger.addUnreadable(lexer.start);
            shelf.dropPending();
        }
        return ledger.verdicts.count;
    }

    public int fuel(int n) {
        if (n < 1 || n > MOST_FUEL) {
            return NONE;
        }
        int before = ledger.fuel;
        ledger.fuel = n;
        return before;
    }

    public int verdict(int k, int what) {
        return ledger.tell(k, what);
    }

    public int paper() {
        return printer.length;
    }

    public int printed(int i) {
        return i >= 0 && i < printer.length ? printer.sheet[i] & 255 : NONE;
    }

    public int tear() {
        int before = printer.length;
        printer.length = 0;
        return before;
    }

    public int globals() {
        return shelf.count;
    }

    public int find(int n) {
        if (n < 1 || n > byteCount) {
            return NONE;
        }
        byteCount = 0;
        int name = names.lookUp(bytes, 0, n);
        return name == NONE ? NONE : names.globalOf(name);
    }

    public int about(int g, int what) {
        return shelf.has(g) ? shelf.tell(g, what) : NONE;
    }

    public boolean leans(int g, int h) {
        return shelf.has(g) && shelf.has(h) && shelf.reaches(g, h);
    }

    public int show(int g) {
        return shelf.has(g) ? printer.printLine(shelf.typeOf(g)) : NONE;
    }

    public int forget(int g) {
        if (g < 0 || g > shelf.count || (g < shelf.count && shelf.kindOf(g) == CONSTRUCTOR)) {
            return NONE;
        }
        return shelf.cutTo(g);
    }

    /** Rows of so many numbers each, one upon the other; it grows as it needs to. */
    private static final class Pile {
        private final int width;
        private int[] cells;
        private int count;

        Pile(int width) {
            this.width = width;
            cells = new int[16 * width];
        }

        void add(int a) {
            int at = count * width;
            if (at == cells.length) {
                cells = Arrays.copyOf(cells, 2 * cells.length);
            }
            cells[at] = a;
            count++;
        }

        void add(int a, int b, int c) {
            int at = count * width;
            if (at == cells.length) {
                cells = Arrays.copyOf(cells, 2 * cells.length);
            }
            cells[at] = a;
            cells[at + 1] = b;
            cells[at + 2] = c;
            count++;
        }

        int get(int row, int i) {
            return cells[row * width + i];
        }

        void set(int row, int i, int value) {
            cells[row * width + i] = value;
        }

        /** Takes the top row away: its first number. The others can be read until a row is added. */
        int take() {
            count--;
            return cells[count * width];
        }

        int top() {
            return cells[(count - 1) * width];
        }
    }

    /** The verdicts of a text, and the cost and the outcome of the declaration that is being checked. */
    private static final class Ledger {
        private static final int WIDTH = 4;
        private final Pile verdicts = new Pile(WIDTH);
        private int fuel = 5000;
        private int cost;
        private int outcome;
        private int reason;
        private int place;

        void clear() {
            verdicts.count = 0;
        }

        void open() {
            cost = 0;
            outcome = ACCEPTED;
            reason = 0;
            place = 0;
        }

        boolean goesOn() {
            return outcome == ACCEPTED;
        }

        void charge(int nodes) {
            cost += nodes;
            if (cost > fuel && outcome == ACCEPTED) {
                outcome = OUT;
            }
        }

        void refuse(int why, int where) {
            if (outcome == ACCEPTED) {
                outcome = REFUSED;
                reason = why;
                place = where;
            }
        }

        void close() {
            verdicts.add(outcome, reason, place);
            verdicts.set(verdicts.count - 1, WIDTH - 1, outcome == ACCEPTED ? cost : 0);
        }

        void addUnreadable(int where) {
            open();
            outcome = UNREADABLE;
            place = where;
            close();
        }

        int tell(int k, int what) {
            return k < 0 || k >= verdicts.count || what < 0 || what >= WIDTH ? NONE : verdicts.get(k, what);
        }
    }

    /** Every name that a kept global or the text at hand uses, once, with what it means just now. */
    private static final class Names {
        private static final int ROW = 7;
        private static final int START = 0;
        private static final int LENGTH = 1;
        private static final int NEXT = 2;
        private static final int BUCKET = 3;
        private static final int BINDER = 4;
        private static final int NUMBER = 5;
        private static final int SERIAL = 6;
        private static final int BUCKETS = 128;
        private byte[] letters = new byte[256];
        private int letterCount;
        private int[] rows = new int[ROW * 32];
        private final int[] buckets = new int[BUCKETS];
        private int count;
        private int serial;

        Names() {
            Arrays.fill(buckets, NONE);
            byte[] own = {'x', 'M'};
            intern(own, 0, 1);
            intern(own, 1, 2);
        }

        int lookUp(byte[] from, int start, int stop) {
            for (int name = buckets[bucketOf(from, start, stop)]; name != NONE; name = rows[ROW * name + NEXT]) {
                if (isSpelled(name, from, start, stop)) {
                    return name;
                }
            }
            return NONE;
        }

        int intern(byte[] from, int start, int stop) {
            int known = lookUp(from, start, stop);
            return known != NONE ? known : add(from, start, stop);
        }

        private int add(byte[] from, int start, int stop) {
            int size = stop - start;
            if (letterCount + size > letters.length) {
                letters = Arrays.copyOf(letters, 2 * letters.length);
            }
            if (ROW * (count + 1) > rows.length) {
                rows = Arrays.copyOf(rows, 2 * rows.length);
            }
            System.arraycopy(from, start, letters, letterCount, size);
            int bucket = bucketOf(from, start, stop);
            int at = ROW * count;
            rows[at + START] = letterCount;
            rows[at + LENGTH] = size;
            rows[at + NEXT] = buckets[bucket];
            rows[at + BUCKET] = bucket;
            rows[at + BINDER] = NONE;
            rows[at + NUMBER] = NONE;
            rows[at + SERIAL] = 0;
            buckets[bucket] = count;
            letterCount += size;
            count++;
            return count - 1;
        }

        private static int bucketOf(byte[] from, int start, int stop) {
            int sum = 0;
            for (int i = start; i < stop; i++) {
                sum = 31 * sum + from[i];
            }
            return sum & (BUCKETS - 1);
        }

        private boolean isSpelled(int name, byte[] from, int start, int stop) {
            if (lengthOf(name) != stop - start) {
                return false;
            }
            int shift = rows[ROW * name + START] - start;
            for (int i = start; i < stop; i++) {
                if (letters[i + shift] != from[i]) {
                    return false;
                }
            }
            return true;
        }

        void cutTo(int mark) {
            // The newest names stand first in their buckets, so they are taken out in the reverse order.
            for (int name = count - 1; name >= mark; name--) {
                buckets[rows[ROW * name + BUCKET]] = rows[ROW * name + NEXT];
                letterCount = rows[ROW * name + START];
            }
            count = Math.min(count, mark);
        }

        int lengthOf(int name) {
            return rows[ROW * name + LENGTH];
        }

        byte letter(int name, int i) {
            return letters[rows[ROW * name + START] + i];
        }

        int binderOf(int name) {
            return rows[ROW * name + BINDER];
        }

        void setBinder(int name, int binder) {
            rows[ROW * name + BINDER] = binder;
        }

        int globalOf(int name) {
            return rows[ROW * name + NUMBER];
        }

        void setGlobal(int name, int number) {
            rows[ROW * name + NUMBER] = number;
        }

        void openDeclaration() {
            serial++;
        }

        /** Declares a name: whether a global has it already, or it was declared before in this declaration. */
        boolean declare(int name) {
            int at = ROW * name;
            boolean taken = rows[at + NUMBER] != NONE || rows[at + SERIAL] == serial;
            rows[at + SERIAL] = serial;
            return taken;
        }
    }

    /** The tokens of a text, one after the other. */
    private static final class Lexer {
        private final Names names;
        private byte[] text;
        private int length;
        private int at;
        private int token;
        private int start;
        private int name;
        private int level;

        Lexer(Names names) {
            this.names = names;
            text = new byte[0];
        }

        void open(byte[] bytes, int n) {
            text = bytes;
            length = n;
            at = 0;
            start = 0;
            token = TEXT_END;
        }

        void advance() {
            boolean readable = skipBlanks();
            start = at;
            if (!readable) {
                token = NO_TOKEN;
            } else if (at >= length) {
                token = TEXT_END;
            } else if (isLetter(text[at])) {
                readName();
            } else {
                readSign();
            }
        }

        private int byteAt(int place) {
            return place < length ? text[place] : 0;
        }

        private static boolean isLetter(int c) {
            return (c >= 'a' && c <= 'z') || (c >= 'A' && c <= 'Z') || c == '_';
        }

        private static boolean isDigit(int c) {
            return c >= '0' && c <= '9';
        }

        /** Whether all remarks end; at is then where the next token is, and otherwise where the remark begins. */
        private boolean skipBlanks() {
            for (int left = length; left >= 0 && at < length; left--) {
                int c = text[at];
                if (c == 9 || c == 10 || c == 13 || c == 32) {
                    at++;
                } else if (c == '-' && byteAt(at + 1) == '-') {
                    at = endOfLine(at);
                } else if (c == '{' && byteAt(at + 1) == '-') {
                    int stop = endOfRemark(at);
                    if (stop == NONE) {
                        return false;
                    }
                    at = stop;
                } else {
                    return true;
                }
            }
            return true;
        }

        private int endOfLine(int from) {
            int stop = from;
            while (stop < length && text[stop] != 10) {
                stop++;
            }
            return stop;
        }

        private int endOfRemark(int from) {
            int open = 0;
            int i = from;
            while (i + 1 < length) {
                if (text[i] == '{' && text[i + 1] == '-') {
                    open++;
                    i += 2;
                } else if (text[i] == '-' && text[i + 1] == '}') {
                    open--;
                    i += 2;
                    if (open == 0) {
                        return i;
                    }
                } else {
                    i++;
                }
            }
            return NONE;
        }

        private void readName() {
            while (at < length && (isLetter(text[at]) || isDigit(text[at]) || text[at] == '\'')) {
                at++;
            }
            int word = wordNumber();
            level = sortLevel(word);
            if (level != NONE) {
                token = SORT_WORD;
            } else if (word != NONE) {
                token = word;
            } else if (at - start > LONGEST_NAME) {
                token = NO_TOKEN;
            } else {
                token = NAME;
                name = names.intern(text, start, at);
            }
        }

        private int wordNumber() {
            int number = WORD_AXIOM;
            boolean same = true;
            int from = start;
            for (int i = 0; i < WORDS.length(); i++) {
                char c = WORDS.charAt(i);
                if (c != ' ') {
                    same = same && from < at && text[from] == c;
                    from++;
                } else if (same && from == at) {
                    return number;
                } else {
                    number++;
                    same = true;
                    from = start;
                }
            }
            return NONE;
        }

        private int sortLevel(int word) {
            if (word != NONE) {
                return word == WORD_PROP ? PROP : word == WORD_TYPE ? TYPE_0 : NONE;
            }
            int size = at - start;
            if (size < 5 || size > 6 || text[start] != 'T' || text[start + 1] != 'y'
                    || text[start + 2] != 'p' || text[start + 3] != 'e' || !isDigit(text[start + 4])) {
                return NONE;
            }
            int tens = text[start + 4] - '0';
            if (size == 5) {
                return TYPE_0 + tens;
            }
            return tens == 0 || !isDigit(text[start + 5]) ? NONE : TYPE_0 + 10 * tens + text[start + 5] - '0';
        }

        private void readSign() {
            int second = byteAt(at + 1);
            switch (text[at]) {
                case '(': token = OPENING; break;
                case ')': token = CLOSING; break;
                case ',': token = COMMA; break;
                case '.': token = DOT; break;
                case '|': token = BAR; break;
                case ':': token = second == '=' ? BECOMES : COLON; break;
                case '=': token = second == '>' ? DOUBLE_ARROW : NO_TOKEN; break;
                case '-': token = second == '>' ? ARROW : NO_TOKEN; break;
                default: token = NO_TOKEN; break;
            }
            at += token == BECOMES || token == DOUBLE_ARROW || token == ARROW ? 2 : 1;
        }
    }

    /**
     * All nodes and binders: first those of the kept globals, then those of the declaration at hand. A binder is the
     * place where a variable is bound; every fun, all and let that is written or made has one of its own. So names do
     * not matter to terms, parts can be shared, and nothing stands within the scope of its own binder once more.
     */
    private static final class Terms {
        // A node: what it is, what it refers to, its parts (the type that a let told is its third one), how many nodes
        // it has in all, and where it stands in the text.
        private static final int CELLS = 7;
        private static final int KIND = 0;
        private static final int REF = 1;
        private static final int FIRST = 2;
        private static final int SECOND = 3;
        private static final int TOLD = 4;
        private static final int SIZE = 5;
        private static final int PLACE = 6;
        // A binder.
        private static final int ROW = 6;
        private static final int NAMED = 0;
        private static final int TYPE = 1;
        private static final int VALUE = 2;
        private static final int TWIN = 3;
        private static final int LEVEL = 4;
        private static final int COPY = 5;
        // Types of several names are shared, so a written term can have more nodes than an int can count.
        private static final int GREATEST_SIZE = 1 << 28;
        private int[] cells = new int[CELLS * 256];
        private int top;
        private int[] rows = new int[ROW * 128];
        private int binders;
        private int kept;
        private int keptBinders;
        private int block;
        private int blockBinders;
        private final Pile stack = new Pile(1);

        /** ref is the binder of a variable, a fun, an all or a let, the number of a global, the level of a sort. */
        private int node(int kind, int ref, int first, int second, int size, int place) {
            if (top + CELLS > cells.length) {
                cells = Arrays.copyOf(cells, 2 * cells.length);
            }
            int n = top;
            cells[n + KIND] = kind;
            cells[n + REF] = ref;
            cells[n + FIRST] = first;
            cells[n + SECOND] = second;
            cells[n + TOLD] = NONE;
            cells[n + SIZE] = Math.min(size, GREATEST_SIZE);
            cells[n + PLACE] = place;
            top += CELLS;
            return n;
        }

        int variable(int binder, int place) {
            return node(VARIABLE, binder, NONE, NONE, 1, place);
        }

        int global(int number, int place) {
            return node(GLOBAL, number, NONE, NONE, 1, place);
        }

        int sort(int level, int place) {
            return node(SORT, level, NONE, NONE, 1, place);
        }

        /** rec of a family into a sort, whose level stands where other nodes have their first part. */
        int rec(int family, int level, int place) {
            return node(REC, family, level, NONE, 1, place);
        }

        int apply(int function, int argument) {
            int size = 1 + cells[function + SIZE] + cells[argument + SIZE];
            return node(APPLY, NONE, function, argument, size, cells[function + PLACE]);
        }

        int bind(int kind, int binder, int type, int body, int place) {
            return node(kind, binder, type, body, 1 + cells[type + SIZE] + cells[body + SIZE], place);
        }

        int let(int binder, int told, int value, int body, int place) {
            int size = 1 + cells[value + SIZE] + cells[body + SIZE] + (told == NONE ? 0 : cells[told + SIZE]);
            int n = node(LET, binder, value, body, size, place);
            cells[n + TOLD] = told;
            return n;
        }

        /** (T : U), which is as large as T, since T alone is kept of it. */
        int cast(int term, int type, int place) {
            return node(CAST, NONE, term, type, cells[term + SIZE], place);
        }

        int kind(int n) {
            return cells[n + KIND];
        }

        int ref(int n) {
            return cells[n + REF];
        }

        int first(int n) {
            return cells[n + FIRST];
        }

        int second(int n) {
            return cells[n + SECOND];
        }

        int told(int n) {
            return cells[n + TOLD];
        }

        int size(int n) {
            return cells[n + SIZE];
        }

        int place(int n) {
            return cells[n + PLACE];
        }

        boolean hasParts(int n) {
            return cells[n + KIND] >= APPLY;
        }

        int binder(int name) {
            if (ROW * (binders + 1) > rows.length) {
                rows = Arrays.copyOf(rows, 2 * rows.length);
            }
            int at = ROW * binders;
            rows[at + NAMED] = name;
            rows[at + TYPE] = NONE;
            rows[at + VALUE] = NONE;
            rows[at + TWIN] = NONE;
            rows[at + LEVEL] = PROP;
            rows[at + COPY] = NONE;
            binders++;
            return binders - 1;
        }

        int nameOf(int binder) {
            return rows[ROW * binder + NAMED];
        }

        /** The type that a variable was told to have, in normal form. */
        int typeOf(int binder) {
            return rows[ROW * binder + TYPE];
        }

        void setType(int binder, int type) {
            rows[ROW * binder + TYPE] = type;
        }

        /** What a let gave to its variable; NONE for variables of fun and all. */
        int valueOf(int binder) {
            return rows[ROW * binder + VALUE];
        }

        void setValue(int binder, int value) {
            rows[ROW * binder + VALUE] = value;
        }

        /** The binder before this one that shares its written type; NONE for the first of them. */
        int twinOf(int binder) {
            return rows[ROW * binder + TWIN];
        }

        void setTwin(int binder, int twin) {
            rows[ROW * binder + TWIN] = twin;
        }

        int levelOf(int binder) {
            return rows[ROW * binder + LEVEL];
        }

        void setLevel(int binder, int level) {
            rows[ROW * binder + LEVEL] = level;
        }

        /** How many all stand one behind the other. */
        int countAll(int chain) {
            int length = 0;
            for (int end = chain; length < MANY && cells[end + KIND] == ALL; end = cells[end + SECOND]) {
                length++;
            }
            return length;
        }

        /** What stands behind so many fun or all of a chain. */
        int behind(int chain, int length) {
            int end = chain;
            for (int i = length; i > 0; i--) {
                end = cells[end + SECOND];
            }
            return end;
        }

        int behindAll(int chain) {
            return behind(chain, countAll(chain));
        }

        /** What is put to the arguments of an application. */
        int headOf(int application) {
            int head = application;
            for (int left = MANY; left > 0 && cells[head + KIND] == APPLY; left--) {
                head = cells[head + FIRST];
            }
            return head;
        }

        boolean mentions(int root, int global) {
            stack.count = 0;
            stack.add(root);
            for (int left = MANY; left > 0 && stack.count > 0; left--) {
                int n = stack.take();
                if (cells[n + KIND] == GLOBAL && cells[n + REF] == global) {
                    return true;
                }
                if (hasParts(n)) {
                    stack.add(cells[n + SECOND]);
                    stack.add(cells[n + FIRST]);
                }
            }
            return false;
        }

        /** All that is not kept is gone. */
        void drop() {
            top = kept;
            binders = keptBinders;
        }

        void keepAll() {
            kept = top;
            keptBinders = binders;
        }

        void cutTo(int mark, int binderMark) {
            top = mark;
            binders = binderMark;
            keepAll();
        }

        /** From here on copies are made, each root by copyNode, and their parts by fillBlock. */
        void openBlock() {
            block = top;
            blockBinders = binders;
        }

        int copyNode(int root) {
            int n = root;
            for (int left = DEEPEST_TERM; left > 0 && cells[n + KIND] == CAST; left--) {
                n = cells[n + FIRST];
            }
            int copy = node(cells[n + KIND], cells[n + REF], cells[n + FIRST], cells[n + SECOND], cells[n + SIZE], 0);
            cells[copy + TOLD] = cells[n + TOLD];
            if (bindsOrVaries(n)) {
                cells[copy + REF] = copyBinder(cells[n + REF]);
            }
            return copy;
        }

        private boolean bindsOrVaries(int n) {
            int kind = cells[n + KIND];
            return kind == VARIABLE || kind == FUN || kind == ALL || kind == LET;
        }

        private int copyBinder(int binder) {
            if (binder < keptBinders) {
                return binder;
            }
            if (rows[ROW * binder + COPY] == NONE) {
                int copy = binder(rows[ROW * binder + NAMED]);
                rows[ROW * binder + COPY] = copy;
            }
            return rows[ROW * binder + COPY];
        }

        void fillBlock() {
            // The copies of parts come behind what is looked at, so this goes on until all of them are copied.
            int n = block;
            for (int left = MOST_NODES; left > 0 && n < top; left--) {
                if (hasParts(n)) {
                    int first = copyNode(cells[n + FIRST]);
                    int second = copyNode(cells[n + SECOND]);
                    cells[n + FIRST] = first;
                    cells[n + SECOND] = second;
                }
                if (cells[n + TOLD] != NONE) {
                    int told = copyNode(cells[n + TOLD]);
                    cells[n + TOLD] = told;
                }
                n += CELLS;
            }
        }

        /** The copies move down to what is kept, and the rest is gone: how far they moved. */
        int closeBlock() {
            int shift = block - kept;
            int binderShift = blockBinders - keptBinders;
            System.arraycopy(cells, block, cells, kept, top - block);
            System.arraycopy(rows, ROW * blockBinders, rows, ROW * keptBinders, ROW * (binders - blockBinders));
            top -= shift;
            binders -= binderShift;
            for (int n = kept; n < top; n += CELLS) {
                if (hasParts(n)) {
                    cells[n + FIRST] -= shift;
                    cells[n + SECOND] -= shift;
                }
                if (cells[n + TOLD] != NONE) {
                    cells[n + TOLD] -= shift;
                }
                if (bindsOrVaries(n) && cells[n + REF] >= blockBinders) {
                    cells[n + REF] -= binderShift;
                }
            }
            return shift;
        }
    }

    /** The globals, in the order in which they came; those from count on are of the declaration at hand. */
    private static final class Shelf {
        private static final int ROW = 20;
        private static final int KIND = 0;
        private static final int NAMED = 1;
        private static final int TYPE = 2;
        private static final int VALUE = 3;
        private static final int PARAMETERS = 4;
        // Of a family how many indices and how many constructors, of a constructor how many arguments and its family.
        private static final int PARTS = 5;
        private static final int KIN = 6;
        // Whether rec is allowed for any sort.
        private static final int FREE = 7;
        // Of this global and all before it.
        private static final int NODES = 8;
        // Where the nodes of its declaration begin and end, and how many binders, names and calls there were before.
        private static final int START = 9;
        private static final int STOP = 10;
        private static final int BINDER_MARK = 11;
        private static final int NAME_MARK = 12;
        private static final int CALL_MARK = 13;
        // Of a family: the binder that stands for its rec, behind which come those of the motive and of the parts for
        // constructors; the binder of the last part and its type; and the type of a rec behind its motive.
        private static final int HEAD = 14;
        private static final int MAJOR = 15;
        private static final int TARGET = 16;
        private static final int CASES = 17;
        // Of a constructor: which calls of its rec it brings, one for each recursive argument.
        private static final int CALLS = 18;
        private static final int CALL_COUNT = 19;
        private final Names names;
        private final Terms terms;
        private int[] rows = new int[ROW * 16];
        private int count;
        private int pending;
        private int keptNames;
        private final Pile calls = new Pile(1);
        private boolean[] reached = new boolean[16];
        private boolean[] searched = new boolean[16];
        private final Pile open = new Pile(1);
        private final Pile list = new Pile(1);

        Shelf(Names names, Terms terms) {
            this.names = names;
            this.terms = terms;
            keptNames = names.count;
        }

        boolean has(int g) {
            return g >= 0 && g < count;
        }

        int get(int g, int what) {
            return rows[ROW * g + what];
        }

        void set(int g, int what, int value) {
            rows[ROW * g + what] = value;
        }

        int kindOf(int g) {
            return rows[ROW * g + KIND];
        }

        int nameOf(int g) {
            return rows[ROW * g + NAMED];
        }

        int typeOf(int g) {
            return rows[ROW * g + TYPE];
        }

        int tell(int g, int what) {
            switch (what) {
                case 0: return kindOf(g);
                case 1: return terms.size(typeOf(g));
                case 2: return get(g, PARAMETERS);
                case 3: return get(g, PARTS);
                case 4: return get(g, KIN);
                case 5: return get(g, FREE);
                default: return NONE;
            }
        }

        boolean allowsRec(int family, int level) {
            return level == PROP || get(family, FREE) == 1;
        }

        int addPending(int kind, int name, int type, int value) {
            if (ROW * (pending + 1) > rows.length) {
                rows = Arrays.copyOf(rows, 2 * rows.length);
            }
            int g = pending;
            Arrays.fill(rows, ROW * g, ROW * (g + 1), 0);
            set(g, KIND, kind);
            set(g, NAMED, name);
            set(g, TYPE, type);
            set(g, VALUE, value);
            pending++;
            return g;
        }

        private int keptNodes() {
            return count == 0 ? 0 : get(count - 1, NODES);
        }

        private int nodesOf(int g) {
            int value = get(g, VALUE);
            return terms.size(typeOf(g)) + (value == NONE ? 0 : terms.size(value));
        }

        boolean hasRoom() {
            long nodes = keptNodes();
            for (int g = count; g < pending; g++) {
                nodes += nodesOf(g);
            }
            return pending <= MOST_GLOBALS && nodes <= MOST_NODES;
        }

        /** The pending globals are kept from now on, as copies that share nothing with others. */
        void keepPending() {
            int start = terms.kept;
            int binderMark = terms.keptBinders;
            int nodes = keptNodes();
            terms.openBlock();
            for (int g = count; g < pending; g++) {
                nodes += nodesOf(g);
                set(g, NODES, nodes);
                set(g, TYPE, terms.copyNode(typeOf(g)));
                if (get(g, VALUE) != NONE) {
                    set(g, VALUE, terms.copyNode(get(g, VALUE)));
                }
            }
            terms.fillBlock();
            int shift = terms.closeBlock();
            for (int g = count; g < pending; g++) {
                set(g, TYPE, typeOf(g) - shift);
                if (get(g, VALUE) != NONE) {
                    set(g, VALUE, get(g, VALUE) - shift);
                }
                set(g, START, start);
                set(g, STOP, terms.top);
                set(g, BINDER_MARK, binderMark);
                set(g, NAME_MARK, keptNames);
                set(g, CALL_MARK, calls.count);
                names.setGlobal(nameOf(g), g);
            }
            terms.keepAll();
            keptNames = names.count;
            count = pending;
        }

        /** What is not kept is gone, and with it the names that came with it. */
        void dropPending() {
            pending = count;
            terms.drop();
            names.cutTo(keptNames);
        }

        int cutTo(int g) {
            int went = count - g;
            if (went > 0) {
                for (int i = g; i < count; i++) {
                    names.setGlobal(nameOf(i), NONE);
                }
                calls.count = get(g, CALL_MARK);
                terms.cutTo(get(g, START), get(g, BINDER_MARK));
                keptNames = get(g, NAME_MARK);
                count = g;
                dropPending();
            }
            return went;
        }

        int call(int constructor, int i) {
            return calls.get(get(constructor, CALLS) + i, 0);
        }

        boolean reaches(int g, int h) {
            if (reached.length < count) {
                reached = new boolean[rows.length / ROW];
                searched = new boolean[reached.length];
            }
            for (int i = 0; i < count; i++) {
                reached[i] = false;
                searched[i] = false;
            }
            open.count = 0;
            reachFrom(g);
            // What is reached is added behind, each global once.
            for (int i = 0; i < count && i < open.count && !reached[h]; i++) {
                reachFrom(open.get(i, 0));
            }
            return reached[h];
        }

        /** All globals that stand in what was declared together with g are reached. */
        private void reachFrom(int g) {
            int leader = kindOf(g) == CONSTRUCTOR ? get(g, KIN) : g;
            if (searched[leader]) {
                return;
            }
            searched[leader] = true;
            for (int n = get(g, START); n < get(g, STOP); n += Terms.CELLS) {
                int kind = terms.kind(n);
                int other = terms.ref(n);
                if ((kind == GLOBAL || kind == REC) && !reached[other]) {
                    reached[other] = true;
                    open.add(other);
                }
            }
        }

        /** Makes what rec of a new family needs: the ends of its types, and the calls of itself that it unfolds to. */
        void equip(int family) {
            int cases = get(family, KIN);
            int head = terms.binder(NAMELESS);
            int motive = terms.binder(MOTIVE);
            for (int i = 0; i < cases; i++) {
                terms.binder(NAMELESS);
            }
            int major = terms.binder(NAMELESS);
            set(family, HEAD, head);
            set(family, MAJOR, major);
            set(family, TARGET, applyToBinders(terms.global(family, 0), typeOf(family), wholeLength(family)));
            int indices = behindParameters(family);
            int goal = applyToBinders(terms.variable(motive, 0), indices, get(family, PARTS));
            goal = terms.apply(goal, terms.variable(major, 0));
            listChain(indices, get(family, PARTS));
            int type = wrapListed(ALL, 0, terms.bind(ALL, major, get(family, TARGET), goal, 0));
            for (int i = cases; i > 0; i--) {
                type = terms.bind(ALL, motive + i, caseType(family + i, motive), type, 0);
            }
            set(family, CASES, type);
            int call = applyToBinders(terms.variable(head, 0), typeOf(family), get(family, PARAMETERS));
            for (int i = 0; i <= cases; i++) {
                call = terms.apply(call, terms.variable(motive + i, 0));
            }
            for (int i = 1; i <= cases; i++) {
                addCalls(family + i, call);
            }
            terms.keepAll();
        }

        private int wholeLength(int g) {
            return get(g, PARAMETERS) + get(g, PARTS);
        }

        private int behindParameters(int g) {
            return terms.behind(typeOf(g), get(g, PARAMETERS));
        }

        /** Lists so many fun or all of a chain: what stands behind them. */
        private int listChain(int chain, int length) {
            int node = chain;
            for (int i = length; i > 0; i--) {
                list.add(node);
                node = terms.second(node);
            }
            return node;
        }

        /** The body behind the binders that were listed from mark on, which are listed no more. */
        private int wrapListed(int kind, int mark, int body) {
            int term = body;
            for (int left = list.count - mark; left > 0; left--) {
                int binding = list.take();
                term = terms.bind(kind, terms.ref(binding), terms.first(binding), term, 0);
            }
            return term;
        }

        private int applyToBinders(int function, int chain, int length) {
            int term = function;
            int node = chain;
            for (int i = length; i > 0; i--) {
                term = terms.apply(term, terms.variable(terms.ref(node), 0));
                node = terms.second(node);
            }
            return term;
        }

        /** The function put to the last so many arguments of another application. */
        private int applyToLast(int function, int other, int length) {
            int mark = list.count;
            int node = other;
            for (int i = length; i > 0; i--) {
                list.add(terms.second(node));
                node = terms.first(node);
            }
            int term = function;
            for (int left = list.count - mark; left > 0; left--) {
                term = terms.apply(term, list.take());
            }
            return term;
        }

        /** What the part of a rec for this constructor must have as its type. */
        private int caseType(int constructor, int motive) {
            int family = get(constructor, KIN);
            int mark = list.count;
            int made = listChain(behindParameters(constructor), get(constructor, PARTS));
            int end = applyToLast(terms.variable(motive, 0), made, get(family, PARTS));
            int whole = applyToBinders(terms.global(constructor, 0), typeOf(constructor), wholeLength(constructor));
            end = terms.apply(end, whole);
            for (int i = list.count - 1; i >= mark; i--) {
                int argument = list.get(i, 0);
                if (isRecursive(argument, family)) {
                    int premise = callFor(terms.variable(motive, 0), argument, family, ALL);
                    end = terms.bind(ALL, terms.binder(NAMELESS), premise, end, 0);
                }
            }
            return wrapListed(ALL, mark, end);
        }

        private boolean isRecursive(int argument, int family) {
            int head = terms.headOf(terms.behindAll(terms.first(argument)));
            return terms.kind(head) == GLOBAL && terms.ref(head) == family;
        }

        /** For an argument A of type all ys , D Ps Js: the head put to Js and (A ys), behind fun ys or all ys. */
        private int callFor(int head, int argument, int family, int kind) {
            int mark = list.count;
            int type = terms.first(argument);
            int length = terms.countAll(type);
            int last = applyToBinders(terms.variable(terms.ref(argument), 0), type, length);
            int call = terms.apply(applyToLast(head, terms.behind(type, length), get(family, PARTS)), last);
            listChain(type, length);
            return wrapListed(kind, mark, call);
        }

        private void addCalls(int constructor, int head) {
            int family = get(constructor, KIN);
            int argument = behindParameters(constructor);
            set(constructor, CALLS, calls.count);
            for (int i = get(constructor, PARTS); i > 0; i--) {
                if (isRecursive(argument, family)) {
                    calls.add(callFor(head, argument, family, FUN));
                }
                argument = terms.second(argument);
            }
            set(constructor, CALL_COUNT, calls.count - get(constructor, CALLS));
        }

        /** The type of rec of a family into a sort. */
        int recType(int family, int level) {
            listChain(typeOf(family), wholeLength(family));
            int motive = terms.bind(ALL, get(family, MAJOR), get(family, TARGET), terms.sort(level, 0), 0);
            motive = wrapListed(ALL, get(family, PARAMETERS), motive);
            int type = terms.bind(ALL, get(family, HEAD) + 1, motive, get(family, CASES), 0);
            return wrapListed(ALL, 0, type);
        }
    }

    /** Reads one declaration of the text at a time, token by token, and finds out what its names mean. */
    private static final class Parser {
        // What is to be done at the next token.
        private static final int BEGIN_TERM = 0;
        private static final int READ_ATOM = 1;
        private static final int GO_ON = 2;
        private static final int END_TERM = 3;
        private static final int READ_REC_NAME = 4;
        private static final int READ_REC_SORT = 5;
        private static final int READ_BINDERS = 6;
        private static final int READ_NAME = 7;
        private static final int READ_MORE_NAMES = 8;
        private static final int END_GROUP = 9;
        private static final int READ_LET_NAME = 10;
        private static final int READ_LET = 11;
        private static final int READ_OWN_NAME = 12;
        private static final int READ_OWN_GROUPS = 13;
        private static final int READ_CONSTRUCTOR_NAME = 14;
        private static final int READ_COLON = 15;
        private static final int BEGIN_DECLARATION = 16;
        private static final int READY = 17;
        private static final int FAILED = 18;
        // What an open TERM is part of, as frames say it.
        private static final int IN_ARROW = 0;
        private static final int IN_BRACKETS = 1;
        private static final int IN_CAST = 2;
        private static final int IN_NAMES = 3;
        private static final int IN_GROUP = 4;
        private static final int IN_BODY = 5;
        private static final int IN_LET_TYPE = 6;
        private static final int IN_LET_VALUE = 7;
        private static final int IN_LET_BODY = 8;
        private static final int IN_OWN_GROUP = 9;
        private static final int IN_TYPE = 10;
        private static final int IN_VALUE = 11;
        private static final int IN_QUESTION = 12;
        private static final int IN_CONSTRUCTOR = 13;
        private static final int FRAME = 5;
        private final Lexer lexer;
        private final Names names;
        private final Terms terms;
        private final Shelf shelf;
        private final Ledger ledger;
        private final Pile frames = new Pile(FRAME);
        private final Pile waiting = new Pile(1);
        private int mode;
        private int depth;
        private int term;
        private int application;
        private int place;
        private int subject;
        // The declaration: its word and where that stands, its name, its groups as binder, type and what the name of
        // the binder meant before, its TERMs, and the names and TERMs of its constructors.
        private int word;
        private int start;
        private int name;
        private final Pile bound = new Pile(3);
        private int told;
        private int value;
        private final Pile constructors = new Pile(3);

        Parser(Lexer lexer, Shelf shelf, Ledger ledger) {
            this.lexer = lexer;
            this.names = lexer.names;
            this.terms = shelf.terms;
            this.shelf = shelf;
            this.ledger = ledger;
        }

        boolean failed() {
            return mode == FAILED;
        }

        /** Whether a declaration was read as a whole; the ledger is open for it then, with what its names met. */
        boolean readDeclaration() {
            ledger.open();
            frames.count = 0;
            waiting.count = 0;
            bound.count = 0;
            constructors.count = 0;
            depth = 1;
            names.openDeclaration();
            mode = READY;
            lexer.advance();
            word = lexer.token;
            start = lexer.start;
            name = NONE;
            told = NONE;
            value = NONE;
            if (word == TEXT_END) {
                return false;
            }
            mode = BEGIN_DECLARATION;
            for (int left = MANY; left > 0 && mode < READY; left--) {
                if (takesToken()) {
                    lexer.advance();
                }
            }
            closeScopes();
            return mode == READY;
        }

        private boolean beginDeclaration() {
            if (word == WORD_CHECK || word == WORD_NORM) {
                return entersOwn(IN_QUESTION);
            }
            mode = word >= WORD_AXIOM && word <= WORD_DATA ? READ_OWN_NAME : FAILED;
            return mode != FAILED;
        }

        private void closeScopes() {
            // The groups stay in the declaration; only what the names mean goes.
            for (int i = bound.count - 1; i >= 0; i--) {
                names.setBinder(terms.nameOf(bound.get(i, 0)), bound.get(i, 2));
            }
            if (name != NONE && names.globalOf(name) == shelf.count) {
                names.setGlobal(name, NONE);
            }
        }

        /** Does what is to be done: whether that takes the token, so that the next one is to be looked at. */
        private boolean takesToken() {
            switch (mode) {
                case BEGIN_TERM: return beginTerm();
                case READ_ATOM: return readAtom();
                case GO_ON: return goOn();
                case END_TERM: return endTerm();
                case READ_REC_NAME: return readRecName();
                case READ_REC_SORT: return readRecSort();
                case READ_BINDERS: return readBinders();
                case READ_NAME: return readName();
                case READ_MORE_NAMES: return readMoreNames();
                case END_GROUP: return endGroup();
                case READ_LET_NAME: return readLetName();
                case READ_LET: return readLet();
                case READ_OWN_NAME: return readOwnName();
                case READ_OWN_GROUPS: return readOwnGroups();
                case READ_CONSTRUCTOR_NAME: return readConstructorName();
                case READ_COLON: return passes(COLON, BEGIN_TERM);
                default: return beginDeclaration();
            }
        }

        private boolean fails() {
            mode = FAILED;
            return false;
        }

        /** The token must be this one; then that is to be done at the next one. */
        private boolean passes(int token, int next) {
            mode = lexer.token == token ? next : FAILED;
            return mode != FAILED;
        }

        /** A TERM begins at the next token; the frame says what it is part of. */
        private void enter(int frame, int a, int b, int c, int d) {
            frames.add(frame, a, b);
            frames.set(frames.count - 1, 3, c);
            frames.set(frames.count - 1, 4, d);
            mode = BEGIN_TERM;
        }

        private boolean entersOwn(int frame) {
            enter(frame, NONE, NONE, NONE, NONE);
            return true;
        }

        /** Part i of the frame that was closed last. */
        private int closed(int i) {
            return frames.get(frames.count, i);
        }

        private boolean declares(int next) {
            if (lexer.token != NAME) {
                return fails();
            }
            if (names.declare(lexer.name)) {
                ledger.refuse(NAME_TAKEN, lexer.start);
            }
            mode = next;
            return true;
        }

        private boolean readOwnName() {
            name = lexer.token == NAME ? lexer.name : NONE;
            return declares(READ_OWN_GROUPS);
        }

        private boolean readOwnGroups() {
            if (lexer.token == OPENING) {
                enter(IN_OWN_GROUP, NONE, NONE, NONE, waiting.count);
                mode = READ_NAME;
                return true;
            }
            if (lexer.token == COLON) {
                return entersOwn(IN_TYPE);
            }
            return lexer.token == BECOMES && word == WORD_DEF ? entersOwn(IN_VALUE) : fails();
        }

        private boolean readConstructorName() {
            if (!declares(READ_COLON)) {
                return false;
            }
            constructors.add(lexer.name, NONE, NONE);
            enter(IN_CONSTRUCTOR, NONE, NONE, NONE, NONE);
            mode = READ_COLON;
            return true;
        }

        private boolean readName() {
            return lexer.token == NAME ? readMoreNames() : fails();
        }

        /** Names wait until the type behind the colon is read, since they are not bound in it. */
        private boolean readMoreNames() {
            if (lexer.token != NAME) {
                return passes(COLON, BEGIN_TERM);
            }
            waiting.add(lexer.name);
            mode = READ_MORE_NAMES;
            return true;
        }

        /** The names that wait from first on are bound, all with this type. */
        private void bindWaiting(int first, int type) {
            int twin = NONE;
            for (int i = first; i < waiting.count; i++) {
                int binder = terms.binder(waiting.get(i, 0));
                terms.setTwin(binder, twin);
                twin = binder;
                bindName(binder, type);
            }
            waiting.count = first;
        }

        /** A variable comes into scope; with is its type, or the value that a let gives it. */
        private void bindName(int binder, int with) {
            int itsName = terms.nameOf(binder);
            bound.add(binder, with, names.binderOf(itsName));
            names.setBinder(itsName, binder);
        }

        private void unbindLast() {
            int binder = bound.take();
            names.setBinder(terms.nameOf(binder), bound.get(bound.count, 2));
        }

        private boolean beginTerm() {
            application = NONE;
            place = lexer.start;
            if (depth > DEEPEST_TERM) {
                return fails();
            }
            switch (lexer.token) {
                case WORD_FUN: subject = FUN; mode = READ_BINDERS; return true;
                case WORD_ALL: subject = ALL; mode = READ_BINDERS; return true;
                case WORD_LET: mode = READ_LET_NAME; return true;
                default: mode = READ_ATOM; return false;
            }
        }

        private boolean readBinders() {
            boolean group = lexer.token == OPENING;
            depth++;
            enter(group ? IN_GROUP : IN_NAMES, subject, place, bound.count, waiting.count);
            mode = READ_NAME;
            return group;
        }

        private boolean readLetName() {
            subject = lexer.name;
            depth++;
            return passes(NAME, READ_LET);
        }

        private boolean readLet() {
            if (lexer.token != COLON && lexer.token != BECOMES) {
                return fails();
            }
            enter(lexer.token == COLON ? IN_LET_TYPE : IN_LET_VALUE, subject, place, NONE, NONE);
            return true;
        }

        private boolean readAtom() {
            switch (lexer.token) {
                case NAME:
                    attach(meant());
                    return true;
                case SORT_WORD:
                    attach(terms.sort(lexer.level, lexer.start));
                    return true;
                case OPENING:
                    depth++;
                    enter(IN_BRACKETS, application, lexer.start, NONE, NONE);
                    return true;
                case WORD_REC:
                    place = lexer.start;
                    mode = READ_REC_NAME;
                    return true;
                default:
                    return fails();
            }
        }

        /** The variable or the global that the name at hand means. */
        private int meant() {
            int binder = names.binderOf(lexer.name);
            if (binder != NONE) {
                return terms.variable(binder, lexer.start);
            }
            int number = names.globalOf(lexer.name);
            if (number == NONE) {
                ledger.refuse(MEANS_NOTHING, lexer.start);
            }
            return terms.global(number, lexer.start);
        }

        private boolean readRecName() {
            if (lexer.token != NAME) {
                return fails();
            }
            subject = names.globalOf(lexer.name);
            if (!shelf.has(subject) || shelf.kindOf(subject) != FAMILY) {
                ledger.refuse(NO_FAMILY, lexer.start);
            }
            mode = READ_REC_SORT;
            return true;
        }

        private boolean readRecSort() {
            if (lexer.token != SORT_WORD) {
                return fails();
            }
            attach(terms.rec(subject, lexer.level, place));
            return true;
        }

        private void attach(int atom) {
            application = application == NONE ? atom : terms.apply(application, atom);
            mode = GO_ON;
        }

        /** What stands behind an application tells whether it goes on. */
        private boolean goOn() {
            switch (lexer.token) {
                case NAME:
                case SORT_WORD:
                case OPENING:
                case WORD_REC:
                    mode = READ_ATOM;
                    return false;
                case ARROW:
                    enter(IN_ARROW, application, NONE, NONE, NONE);
                    return true;
                default:
                    term = application;
                    mode = END_TERM;
                    return false;
            }
        }

        private boolean endTerm() {
            switch (frames.take()) {
                case IN_ARROW:
                    term = terms.bind(ALL, terms.binder(NAMELESS), closed(1), term, terms.place(closed(1)));
                    return false;
                case IN_BRACKETS:
                    if (lexer.token == COLON) {
                        enter(IN_CAST, closed(1), closed(2), term, NONE);
                        return true;
                    }
                    return closeAtom(term);
                case IN_CAST: return closeAtom(terms.cast(closed(3), term, closed(2)));
                case IN_NAMES: return closeBinders();
                case IN_GROUP:
                    frames.count++;
                    return passes(CLOSING, END_GROUP);
                case IN_BODY: return closeBody();
                case IN_LET_TYPE:
                    enter(IN_LET_VALUE, closed(1), closed(2), term, NONE);
                    return passes(BECOMES, BEGIN_TERM);
                case IN_LET_VALUE: return closeLetValue();
                case IN_LET_BODY: return closeLet();
                case IN_OWN_GROUP:
                    bindWaiting(closed(4), term);
                    return passes(CLOSING, READ_OWN_GROUPS);
                default: return endOwnTerm(closed(0));
            }
        }

        private boolean closeAtom(int atom) {
            if (lexer.token != CLOSING) {
                return fails();
            }
            depth--;
            application = closed(1);
            attach(atom);
            return true;
        }

        /** Behind a GROUP of fun or all: another one, or the last part. */
        private boolean endGroup() {
            frames.count--;
            if (lexer.token != OPENING) {
                return closeBinders();
            }
            bindWaiting(closed(4), term);
            frames.count++;
            mode = READ_NAME;
            return true;
        }

        private boolean closeBinders() {
            if (lexer.token != (closed(1) == FUN ? DOUBLE_ARROW : COMMA)) {
                return fails();
            }
            depth--;
            bindWaiting(closed(4), term);
            enter(IN_BODY, closed(1), closed(2), closed(3), NONE);
            return true;
        }

        private boolean closeBody() {
            for (int i = bound.count - 1; i >= closed(3); i--) {
                term = terms.bind(closed(1), bound.get(i, 0), bound.get(i, 1), term, closed(2));
                unbindLast();
            }
            return false;
        }

        private boolean closeLetValue() {
            if (lexer.token != WORD_IN) {
                return fails();
            }
            depth--;
            bindName(terms.binder(closed(1)), term);
            enter(IN_LET_BODY, NONE, closed(2), closed(3), NONE);
            return true;
        }

        private boolean closeLet() {
            int last = bound.count - 1;
            term = terms.let(bound.get(last, 0), closed(3), bound.get(last, 1), term, closed(2));
            unbindLast();
            return false;
        }

        /** Behind a TERM that is in no other one. */
        private boolean endOwnTerm(int frame) {
            if (frame == IN_TYPE || (frame == IN_QUESTION && value != NONE)) {
                told = term;
            } else if (frame == IN_CONSTRUCTOR) {
                constructors.set(constructors.count - 1, 1, term);
            } else {
                value = term;
            }
            if (word == WORD_DATA && lexer.token == BAR) {
                return beginConstructor();
            }
            if (word == WORD_CHECK && lexer.token == COLON && told == NONE) {
                return entersOwn(IN_QUESTION);
            }
            if ((word == WORD_DEF || word == WORD_LEMMA) && frame == IN_TYPE) {
                return lexer.token == BECOMES ? entersOwn(IN_VALUE) : fails();
            }
            // The token behind the end is left alone: it belongs to the next declaration.
            mode = lexer.token == DOT ? READY : FAILED;
            return false;
        }

        private boolean beginConstructor() {
            if (names.globalOf(name) == NONE) {
                names.setGlobal(name, shelf.count);
            }
            mode = READ_CONSTRUCTOR_NAME;
            return true;
        }
    }

    /** Puts terms into normal form: a machine that keeps what stands for variables aside, and shares nothing's cost. */
    private static final class Reducer {
        // What is to be done next.
        private static final int REDUCE = 0;
        private static final int REDUCED = 1;
        private static final int CONTRACT = 2;
        private static final int TAKE_TASK = 3;
        private static final int OVER = 4;
        // Tasks: what is to be made of a term whose head is reduced.
        private static final int NORMAL = 0;
        private static final int SPINE = 1;
        private static final int APPLIED = 2;
        private static final int BOUND = 3;
        private static final int EMPTY = 0;
        private final Terms terms;
        private final Shelf shelf;
        private final Ledger ledger;
        // A scope is binder, thunk, scope; a list is thunk, list; a thunk is term, scope, or, when its head is reduced,
        // NONE, head, scope, list. Scopes and lists go on in older cells only, so they have an end.
        private int[] heap = new int[1024];
        private int heapTop;
        private final Pile tasks = new Pile(3);
        private final Pile results = new Pile(1);
        // Of each rec whose last part is being reduced: it, its parts, and the cell of the last one in their list.
        private final Pile frames = new Pile(3);
        private final Pile parts = new Pile(1);
        private int mode;
        private int term;
        private int scope;
        private int arguments;

        Reducer(Shelf shelf, Ledger ledger) {
            this.terms = shelf.terms;
            this.shelf = shelf;
            this.ledger = ledger;
        }

        /** The normal form of a term, with the argument for the variable of the binder if that is one. */
        int normalForm(int root, int binder, int argument) {
            heapTop = 1;
            tasks.count = 0;
            results.count = 0;
            frames.count = 0;
            term = root;
            scope = binder == NONE ? EMPTY : extend(EMPTY, binder, thunk(argument, EMPTY));
            arguments = EMPTY;
            mode = REDUCE;
            for (int left = MANY; left > 0 && mode != OVER && ledger.goesOn(); left--) {
                switch (mode) {
                    case REDUCE: reduce(); break;
                    case REDUCED: endReduction(); break;
                    case CONTRACT: contractRec(); break;
                    default: takeTask(); break;
                }
            }
            return ledger.goesOn() ? results.top() : NONE;
        }

        private int cell(int size) {
            if (heapTop + size > heap.length) {
                heap = Arrays.copyOf(heap, 2 * heap.length);
            }
            heapTop += size;
            return heapTop - size;
        }

        private int extend(int outer, int binder, int thunk) {
            int at = cell(3);
            heap[at] = binder;
            heap[at + 1] = thunk;
            heap[at + 2] = outer;
            return at;
        }

        private int prepend(int thunk, int list) {
            int at = cell(2);
            heap[at] = thunk;
            heap[at + 1] = list;
            return at;
        }

        private int lookUp(int binder, int from) {
            for (int at = from; at != EMPTY; at = heap[at + 2]) {
                if (heap[at] == binder) {
                    return heap[at + 1];
                }
            }
            return NONE;
        }

        /** A term that waits in a scope; a variable that stands for another such one is that one. */
        private int thunk(int root, int within) {
            int n = root;
            for (int left = DEEPEST_TERM; left > 0 && terms.kind(n) == CAST; left--) {
                n = terms.first(n);
            }
            if (terms.kind(n) == VARIABLE) {
                int known = lookUp(terms.ref(n), within);
                if (known != NONE) {
                    return known;
                }
            }
            int at = cell(2);
            heap[at] = n;
            heap[at + 1] = within;
            return at;
        }

        private void resumeThunk(int thunk) {
            term = heap[thunk];
            scope = heap[thunk + 1];
        }

        private void reduce() {
            switch (terms.kind(term)) {
                case CAST:
                    term = terms.first(term);
                    break;
                case APPLY:
                    ledger.charge(1);
                    arguments = prepend(thunk(terms.second(term), scope), arguments);
                    term = terms.first(term);
                    break;
                case FUN:
                    reduceFun();
                    break;
                case LET:
                    ledger.charge(1);
                    scope = extend(scope, terms.ref(term), thunk(terms.first(term), scope));
                    term = terms.second(term);
                    break;
                case VARIABLE:
                    reduceVariable();
                    break;
                case GLOBAL:
                    reduceGlobal();
                    break;
                case REC:
                    reduceRec();
                    break;
                default:
                    mode = REDUCED;
                    break;
            }
        }

        private void reduceFun() {
            if (arguments == EMPTY) {
                mode = REDUCED;
                return;
            }
            ledger.charge(1);
            scope = extend(scope, terms.ref(term), heap[arguments]);
            arguments = heap[arguments + 1];
            term = terms.second(term);
        }

        private void reduceVariable() {
            int binder = terms.ref(term);
            int known = lookUp(binder, scope);
            if (known != NONE) {
                resumeThunk(known);
            } else if (terms.valueOf(binder) != NONE) {
                ledger.charge(1);
                term = terms.valueOf(binder);
                scope = EMPTY;
            } else {
                mode = REDUCED;
            }
        }

        private void reduceGlobal() {
            int g = terms.ref(term);
            if (shelf.kindOf(g) == DEF) {
                ledger.charge(1);
                term = shelf.get(g, Shelf.VALUE);
                scope = EMPTY;
            } else {
                mode = REDUCED;
            }
        }

        /** If a rec has all its parts, the head of its last one is to be reduced first. */
        private void reduceRec() {
            int family = terms.ref(term);
            int last = arguments;
            for (int i = shelf.wholeLength(family) + 1 + shelf.get(family, Shelf.KIN); i > 0 && last != EMPTY; i--) {
                last = heap[last + 1];
            }
            if (last == EMPTY) {
                mode = REDUCED;
                return;
            }
            frames.add(term, arguments, last);
            resumeThunk(heap[last]);
            arguments = EMPTY;
        }

        /** The head is reduced: of the last part of a rec, or of a term that is wanted in normal form. */
        private void endReduction() {
            if (frames.count == 0) {
                writeHead();
                return;
            }
            if (isWhole(terms.ref(frames.top()))) {
                mode = CONTRACT;
                return;
            }
            int reduced = cell(4);
            heap[reduced] = NONE;
            heap[reduced + 1] = term;
            heap[reduced + 2] = scope;
            heap[reduced + 3] = arguments;
            term = frames.take();
            scope = EMPTY;
            arguments = frames.get(frames.count, 1);
            heap[frames.get(frames.count, 2)] = reduced;
        }

        /** Whether what was reduced is a constructor of the family with all of its parts. */
        private boolean isWhole(int family) {
            if (terms.kind(term) != GLOBAL) {
                return false;
            }
            int g = terms.ref(term);
            if (shelf.kindOf(g) != CONSTRUCTOR || shelf.get(g, Shelf.KIN) != family) {
                return false;
            }
            int list = arguments;
            int missing = shelf.wholeLength(g);
            for (; missing > 0 && list != EMPTY; missing--) {
                list = heap[list + 1];
            }
            return missing == 0 && list == EMPTY;
        }

        private void contractRec() {
            int constructor = terms.ref(term);
            int rec = frames.take();
            int family = terms.ref(rec);
            int calls = shelf.get(constructor, Shelf.CALL_COUNT);
            // The contraction itself, and the applications of what comes to the arguments and the calls.
            ledger.charge(1 + shelf.get(constructor, Shelf.PARTS) + calls);
            int inner = scopeOfRec(rec, frames.get(frames.count, 1));
            int chosen = lookUp(shelf.get(family, Shelf.HEAD) + 1 + constructor - family, inner);
            inner = listParts(constructor, inner);
            int list = heap[frames.get(frames.count, 2) + 1];
            for (int i = calls - 1; i >= 0; i--) {
                list = prepend(thunk(shelf.call(constructor, i), inner), list);
            }
            for (int i = parts.count - 1; i >= 0; i--) {
                list = prepend(parts.get(i, 0), list);
            }
            arguments = list;
            resumeThunk(chosen);
            mode = REDUCE;
        }

        /** The scope in which the calls of a rec stand: it, its parameters, its motive, its parts for constructors. */
        private int scopeOfRec(int rec, int list) {
            int family = terms.ref(rec);
            int head = shelf.get(family, Shelf.HEAD);
            int inner = extend(EMPTY, head, thunk(rec, EMPTY));
            int type = shelf.typeOf(family);
            int at = list;
            for (int i = shelf.get(family, Shelf.PARAMETERS); i > 0; i--) {
                inner = extend(inner, terms.ref(type), heap[at]);
                type = terms.second(type);
                at = heap[at + 1];
            }
            for (int i = 0; i <= shelf.get(family, Shelf.KIN); i++) {
                inner = extend(inner, head + 1 + i, heap[at]);
                at = heap[at + 1];
            }
            return inner;
        }

        /** Lists the arguments of the constructor that was reduced: the scope with them. */
        private int listParts(int constructor, int outer) {
            int type = shelf.typeOf(constructor);
            int at = arguments;
            for (int i = shelf.get(constructor, Shelf.PARAMETERS); i > 0; i--) {
                type = terms.second(type);
                at = heap[at + 1];
            }
            int inner = outer;
            parts.count = 0;
            for (int i = shelf.get(constructor, Shelf.PARTS); i > 0; i--) {
                parts.add(heap[at]);
                inner = extend(inner, terms.ref(type), heap[at]);
                type = terms.second(type);
                at = heap[at + 1];
            }
            return inner;
        }

        /** A node of the normal form is known; its parts are tasks. */
        private void writeHead() {
            ledger.charge(1);
            mode = TAKE_TASK;
            int kind = terms.kind(term);
            if (kind == FUN || kind == ALL) {
                int old = terms.ref(term);
                int binder = terms.binder(terms.nameOf(old));
                int inner = extend(scope, old, thunk(terms.variable(binder, 0), EMPTY));
                tasks.add(BOUND, kind, binder);
                tasks.add(NORMAL, thunk(terms.second(term), inner), NONE);
                tasks.add(NORMAL, thunk(terms.first(term), scope), NONE);
            } else {
                results.add(term);
                tasks.add(SPINE, arguments, NONE);
            }
        }

        private void takeTask() {
            if (tasks.count == 0) {
                mode = OVER;
                return;
            }
            int task = tasks.take();
            int a = tasks.get(tasks.count, 1);
            if (task == NORMAL) {
                normalize(a);
            } else if (task == APPLIED) {
                int argument = results.take();
                results.add(terms.apply(results.take(), argument));
            } else if (task == BOUND) {
                int body = results.take();
                results.add(terms.bind(a, tasks.get(tasks.count, 2), results.take(), body, 0));
            } else if (a != EMPTY) {
                ledger.charge(1);
                tasks.add(SPINE, heap[a + 1], NONE);
                tasks.add(APPLIED, NONE, NONE);
                tasks.add(NORMAL, heap[a], NONE);
            }
        }

        private void normalize(int thunk) {
            if (heap[thunk] == NONE) {
                term = heap[thunk + 1];
                scope = heap[thunk + 2];
                arguments = heap[thunk + 3];
                mode = REDUCED;
            } else {
                resumeThunk(thunk);
                arguments = EMPTY;
                mode = REDUCE;
            }
        }
    }

    /** Finds the types of terms, task by task, and says whether one type fits another. */
    private static final class Typer {
        // Besides pairs of nodes that must be the same, or fit, there are pairs of binders that come and go together.
        private static final int SAME = 0;
        private static final int FITTING = 1;
        private static final int LINK = 2;
        private static final int UNLINK = 3;
        private final Terms terms;
        private final Shelf shelf;
        private final Ledger ledger;
        private final Pile tasks = new Pile(3);
        private int task;
        private int subject;
        private int object;
        private final Pile results = new Pile(1);
        private final Pile pairs = new Pile(3);
        private int[] leftLinks = new int[128];
        private int[] rightLinks = new int[128];

        Typer(Shelf shelf, Ledger ledger) {
            this.terms = shelf.terms;
            this.shelf = shelf;
            this.ledger = ledger;
        }

        void clear() {
            tasks.count = 0;
            results.count = 0;
        }

        /** Tasks are done in the reverse order of being added. */
        void add(int what, int a, int b) {
            tasks.add(what, a, b);
        }

        boolean takeTask() {
            if (tasks.count == 0) {
                return false;
            }
            task = tasks.take();
            subject = tasks.get(tasks.count, 1);
            object = tasks.get(tasks.count, 2);
            return true;
        }

        void give(int node) {
            results.add(node);
        }

        int take() {
            return results.take();
        }

        int latest() {
            return results.top();
        }

        void perform() {
            switch (task) {
                case TAKE_SORT: takeSort(); break;
                case TAKE_TWIN_SORT: terms.setLevel(subject, terms.levelOf(terms.twinOf(subject))); break;
                case ENTER: terms.setType(subject, take()); break;
                case NEED_FUNCTION:
                    if (terms.kind(latest()) != ALL) {
                        ledger.refuse(NO_FUNCTION, terms.place(terms.first(subject)));
                    }
                    break;
                case FIT_ARGUMENT: fitArgument(); break;
                case CLOSE_FUN:
                    give(terms.bind(ALL, terms.ref(subject), terms.typeOf(terms.ref(subject)), take(), 0));
                    break;
                case CLOSE_ALL: closeAll(); break;
                case FIT_LET:
                    needFit(take(), terms.typeOf(terms.ref(subject)), terms.first(subject));
                    terms.setValue(terms.ref(subject), terms.first(subject));
                    break;
                case TAKE_LET:
                    terms.setType(terms.ref(subject), take());
                    terms.setValue(terms.ref(subject), terms.first(subject));
                    break;
                case FIT_CAST: fitCast(); break;
                default: take(); break;
            }
        }

        void infer(int term) {
            switch (terms.kind(term)) {
                case VARIABLE: giveCharged(terms.typeOf(terms.ref(term))); break;
                case GLOBAL: giveCharged(shelf.typeOf(terms.ref(term))); break;
                case SORT: inferSort(term); break;
                case REC: inferRec(term); break;
                case APPLY:
                    add(INSTANTIATE, term, NONE);
                    add(FIT_ARGUMENT, term, NONE);
                    add(INFER, terms.second(term), NONE);
                    add(NEED_FUNCTION, term, NONE);
                    add(INFER, terms.first(term), NONE);
                    break;
                case LET: inferLet(term); break;
                case CAST:
                    add(FIT_CAST, term, NONE);
                    add(INFER, terms.first(term), NONE);
                    add(NORMALIZE, terms.second(term), NONE);
                    add(TAKE_SORT, terms.second(term), NONE);
                    add(INFER, terms.second(term), NONE);
                    break;
                default:
                    add(terms.kind(term) == FUN ? CLOSE_FUN : CLOSE_ALL, term, NONE);
                    add(INFER, terms.second(term), NONE);
                    addEntry(terms.ref(term), terms.first(term));
                    addLook(terms.ref(term), terms.first(term));
                    break;
            }
        }

        /** The type of a binder is to be looked at, unless that was done for its twin. */
        void addLook(int binder, int type) {
            if (terms.twinOf(binder) != NONE) {
                add(TAKE_TWIN_SORT, binder, NONE);
            } else {
                add(TAKE_SORT, type, binder);
                add(INFER, type, NONE);
            }
        }

        /** The type of a binder that was looked at is to be its type, in normal form. */
        void addEntry(int binder, int type) {
            add(ENTER, binder, NONE);
            add(NORMALIZE, type, NONE);
        }

        private void giveCharged(int type) {
            ledger.charge(terms.size(type));
            give(type);
        }

        private void inferSort(int term) {
            if (terms.ref(term) == TYPE_99) {
                ledger.refuse(NO_NEXT_SORT, terms.place(term));
            } else {
                give(terms.sort(terms.ref(term) + 1, 0));
            }
        }

        private void inferRec(int term) {
            int family = terms.ref(term);
            int level = terms.first(term);
            if (!shelf.allowsRec(family, level)) {
                ledger.refuse(REC_NOT_ALLOWED, terms.place(term));
            } else if (level == TYPE_99) {
                ledger.refuse(NO_NEXT_SORT, terms.place(term));
            } else {
                giveCharged(shelf.recType(family, level));
            }
        }

        private void inferLet(int term) {
            int told = terms.told(term);
            add(INFER, terms.second(term), NONE);
            add(told == NONE ? TAKE_LET : FIT_LET, term, NONE);
            add(INFER, terms.first(term), NONE);
            if (told != NONE) {
                addEntry(terms.ref(term), told);
                addLook(terms.ref(term), told);
            }
        }

        private void takeSort() {
            int type = take();
            if (terms.kind(type) != SORT) {
                ledger.refuse(NO_SORT, terms.place(subject));
            } else if (object != NONE) {
                terms.setLevel(object, terms.ref(type));
            }
        }

        private void closeAll() {
            int type = take();
            if (terms.kind(type) != SORT) {
                ledger.refuse(NO_SORT, terms.place(terms.second(subject)));
                return;
            }
            int level = terms.ref(type);
            give(terms.sort(level == PROP ? PROP : Math.max(level, terms.levelOf(terms.ref(subject))), 0));
        }

        private void fitArgument() {
            int type = take();
            needFit(type, terms.first(latest()), terms.second(subject));
        }

        private void fitCast() {
            int type = take();
            needFit(type, latest(), terms.first(subject));
        }

        void needFit(int type, int wanted, int term) {
            if (!fits(type, wanted)) {
                ledger.refuse(NO_FIT, terms.place(term));
            }
        }

        private boolean fits(int left, int right) {
            if (leftLinks.length < terms.binders) {
                leftLinks = new int[2 * terms.binders];
                rightLinks = new int[leftLinks.length];
            }
            pairs.count = 0;
            pairs.add(FITTING, left, right);
            int links = 0;
            boolean fine = true;
            for (int steps = MANY; steps > 0 && pairs.count > 0; steps--) {
                int how = pairs.take();
                int a = pairs.get(pairs.count, 1);
                int b = pairs.get(pairs.count, 2);
                if (how == LINK || how == UNLINK) {
                    links++;
                    leftLinks[a] = how == LINK ? links : 0;
                    rightLinks[b] = leftLinks[a];
                } else {
                    fine = fine && matches(how, a, b);
                }
            }
            return fine;
        }

        /** Whether two nodes match but for their parts, which become pairs of their own. */
        private boolean matches(int how, int a, int b) {
            int kind = terms.kind(a);
            if (kind != terms.kind(b) || terms.size(a) != terms.size(b)) {
                return false;
            }
            int left = terms.ref(a);
            int right = terms.ref(b);
            switch (kind) {
                case VARIABLE:
                    return leftLinks[left] == rightLinks[right] && (leftLinks[left] != 0 || left == right);
                case SORT:
                    return left == right || (how == FITTING && left < right);
                case REC:
                    return left == right && terms.first(a) == terms.first(b);
                case APPLY:
                    pairs.add(SAME, terms.second(a), terms.second(b));
                    pairs.add(SAME, terms.first(a), terms.first(b));
                    return true;
                case FUN:
                case ALL:
                    pairs.add(UNLINK, left, right);
                    pairs.add(kind == ALL ? how : SAME, terms.second(a), terms.second(b));
                    pairs.add(LINK, left, right);
                    pairs.add(SAME, terms.first(a), terms.first(b));
                    return true;
                default:
                    return left == right;
            }
        }
    }

    /** Judges the declaration that was read: does what is to be done for it, until all is done or a reason is met. */
    private static final class Declarer {
        private final Parser declaration;
        private final Typer typer;
        private final Reducer reducer;
        private final Printer printer;
        private final Terms terms;
        private final Shelf shelf;
        private final Ledger ledger;
        private final Pile telescope = new Pile(1);
        private int family;
        private int familyLevel;
        private boolean onlyProofs;

        Declarer(Parser parser, Typer typer, Reducer reducer, Printer printer) {
            this.declaration = parser;
            this.typer = typer;
            this.reducer = reducer;
            this.printer = printer;
            this.terms = parser.terms;
            this.shelf = parser.shelf;
            this.ledger = parser.ledger;
        }

        /** The ledger is open already, since the names were looked at when they were read. */
        void judge() {
            typer.clear();
            if (ledger.goesOn()) {
                plan();
            }
            for (int left = MANY; left > 0 && ledger.goesOn() && typer.takeTask(); left--) {
                switch (typer.task) {
                    case INFER: typer.infer(typer.subject); break;
                    case NORMALIZE: typer.give(reducer.normalForm(typer.subject, NONE, NONE)); break;
                    case INSTANTIATE: instantiate(typer.take(), terms.second(typer.subject)); break;
                    case PRINT:
                        if (printer.printLine(typer.take()) == NONE) {
                            ledger.refuse(PAPER_FULL, declaration.start);
                        }
                        break;
                    case KEEP: keep(); break;
                    case EQUIP: shelf.equip(family); break;
                    default:
                        if (typer.task < FIRST_OWN_TASK) {
                            typer.perform();
                        } else {
                            perform();
                        }
                        break;
                }
            }
            ledger.close();
        }

        private void instantiate(int type, int argument) {
            typer.give(reducer.normalForm(terms.second(type), terms.ref(type), argument));
        }

        private void keep() {
            if (shelf.hasRoom()) {
                shelf.keepPending();
            } else {
                ledger.refuse(SHELF_FULL, declaration.start);
            }
        }

        private void plan() {
            int value = declaration.value;
            switch (declaration.word) {
                case WORD_DATA:
                    telescope.count = 0;
                    typer.add(PARAMETER, 0, NONE);
                    break;
                case WORD_NORM:
                    typer.add(PRINT, NONE, NONE);
                    typer.add(NORMALIZE, value, NONE);
                    typer.add(DROP, NONE, NONE);
                    typer.add(INFER, value, NONE);
                    break;
                case WORD_CHECK:
                    if (declaration.told == NONE) {
                        typer.add(PRINT, NONE, NONE);
                        typer.add(INFER, value, NONE);
                    } else {
                        typer.add(INFER, terms.cast(value, declaration.told, declaration.start), NONE);
                    }
                    break;
                default:
                    planDefinition();
                    break;
            }
        }

        private void planDefinition() {
            int value = declaration.value == NONE ? NONE : inGroups(FUN, declaration.value);
            typer.add(STORE, value, NONE);
            if (declaration.told != NONE && value != NONE) {
                typer.add(FIT_VALUE, NONE, NONE);
            }
            if (value != NONE) {
                typer.add(INFER, value, NONE);
            }
            if (declaration.told != NONE) {
                int type = inGroups(ALL, declaration.told);
                typer.add(NORMALIZE, type, NONE);
                typer.add(TAKE_SORT, declaration.told, NONE);
                typer.add(INFER, type, NONE);
            }
        }

        private int inGroups(int kind, int body) {
            int term = body;
            for (int i = declaration.bound.count - 1; i >= 0; i--) {
                int type = declaration.bound.get(i, 1);
                term = terms.bind(kind, declaration.bound.get(i, 0), type, term, declaration.start);
            }
            return term;
        }

        private void perform() {
            int subject = typer.subject;
            switch (typer.task) {
                case FIT_VALUE: fitValue(typer.take()); break;
                case STORE: store(subject); break;
                case PARAMETER: addParameter(subject); break;
                case SHAPE: needFamilyShape(); break;
                case INDEX: addIndex(subject); break;
                case NEXT_CONSTRUCTOR: beginConstructor(subject); break;
                case ARGUMENT: addArgument(subject, typer.object); break;
                case LIMIT_SORT: limitSort(subject, typer.object); break;
                case BE_POSITIVE: needPositive(subject, typer.object); break;
                default: storeConstructor(subject); break;
            }
        }

        private void fitValue(int type) {
            typer.needFit(type, typer.latest(), declaration.value);
        }

        private void store(int value) {
            int kind = declaration.word == WORD_AXIOM ? AXIOM : declaration.word == WORD_DEF ? DEF : LEMMA;
            shelf.addPending(kind, declaration.name, typer.take(), value);
            typer.add(KEEP, NONE, NONE);
        }

        /** The end behind all the variables of the telescope. */
        private int overTelescope(int end) {
            int term = end;
            for (int i = telescope.count - 1; i >= 0; i--) {
                int binder = telescope.get(i, 0);
                term = terms.bind(ALL, binder, terms.typeOf(binder), term, 0);
            }
            return term;
        }

        private void addParameter(int i) {
            if (i == declaration.bound.count) {
                typer.add(SHAPE, NONE, NONE);
                return;
            }
            int binder = declaration.bound.get(i, 0);
            telescope.add(binder);
            typer.add(PARAMETER, i + 1, NONE);
            typer.addEntry(binder, declaration.bound.get(i, 1));
            typer.addLook(binder, declaration.bound.get(i, 1));
        }

        private void needFamilyShape() {
            if (terms.kind(terms.behindAll(declaration.told)) != SORT) {
                ledger.refuse(NO_FAMILY_SHAPE, terms.place(declaration.told));
            }
            typer.add(INDEX, declaration.told, NONE);
        }

        private void addIndex(int term) {
            if (terms.kind(term) == ALL) {
                telescope.add(terms.ref(term));
                typer.add(INDEX, terms.second(term), NONE);
                typer.addEntry(terms.ref(term), terms.first(term));
                typer.addLook(terms.ref(term), terms.first(term));
            } else {
                storeFamily(term);
            }
        }

        private void storeFamily(int sort) {
            familyLevel = terms.ref(sort);
            if (familyLevel == TYPE_99) {
                ledger.refuse(NO_NEXT_SORT, terms.place(sort));
                return;
            }
            int parameters = declaration.bound.count;
            family = shelf.addPending(FAMILY, declaration.name, overTelescope(sort), NONE);
            shelf.set(family, Shelf.PARAMETERS, parameters);
            shelf.set(family, Shelf.PARTS, telescope.count - parameters);
            shelf.set(family, Shelf.KIN, declaration.constructors.count);
            onlyProofs = true;
            typer.add(NEXT_CONSTRUCTOR, 0, NONE);
        }

        private void beginConstructor(int i) {
            telescope.count = declaration.bound.count;
            if (i == declaration.constructors.count) {
                keepFamily();
                return;
            }
            int term = declaration.constructors.get(i, 1);
            if (!isFamilyApplied(terms.behindAll(term), false)) {
                ledger.refuse(NO_CONSTRUCTOR_SHAPE, terms.place(term));
            }
            typer.add(ARGUMENT, term, i);
        }

        private void keepFamily() {
            int constructors = declaration.constructors.count;
            boolean free = familyLevel != PROP || constructors == 0 || (constructors == 1 && onlyProofs);
            shelf.set(family, Shelf.FREE, free ? 1 : 0);
            typer.add(EQUIP, NONE, NONE);
            typer.add(KEEP, NONE, NONE);
        }

        /** Whether a term is the family put to its parameters and to as many others as it has indices. */
        private boolean isFamilyApplied(int term, boolean notInside) {
            int parameters = shelf.get(family, Shelf.PARAMETERS);
            int head = term;
            for (int i = shelf.wholeLength(family) - 1; i >= 0; i--) {
                if (terms.kind(head) != APPLY) {
                    return false;
                }
                int part = terms.second(head);
                if (i >= parameters) {
                    if (notInside && terms.mentions(part, family)) {
                        return false;
                    }
                } else if (terms.kind(part) != VARIABLE || terms.ref(part) != declaration.bound.get(i, 0)) {
                    return false;
                }
                head = terms.first(head);
            }
            return terms.kind(head) == GLOBAL && terms.ref(head) == family;
        }

        private void addArgument(int term, int i) {
            if (terms.kind(term) == ALL) {
                int binder = terms.ref(term);
                int type = terms.first(term);
                telescope.add(binder);
                typer.add(ARGUMENT, terms.second(term), i);
                typer.add(BE_POSITIVE, binder, type);
                typer.addEntry(binder, type);
                typer.add(LIMIT_SORT, binder, type);
                typer.addLook(binder, type);
            } else {
                typer.add(STORE_CONSTRUCTOR, i, NONE);
                typer.add(NORMALIZE, term, NONE);
                typer.add(DROP, NONE, NONE);
                typer.add(INFER, term, NONE);
            }
        }

        private void limitSort(int binder, int type) {
            int level = terms.levelOf(binder);
            onlyProofs = onlyProofs && level == PROP;
            if (familyLevel != PROP && level > familyLevel) {
                ledger.refuse(SORT_TOO_GREAT, terms.place(type));
            }
        }

        private void needPositive(int binder, int type) {
            int normal = terms.typeOf(binder);
            if (!terms.mentions(normal, family)) {
                return;
            }
            boolean positive = true;
            int end = normal;
            for (int i = terms.countAll(normal); i > 0; i--) {
                positive = positive && !terms.mentions(terms.first(end), family);
                end = terms.second(end);
            }
            if (!positive || !isFamilyApplied(end, true)) {
                ledger.refuse(NOT_POSITIVE, terms.place(type));
            }
        }

        private void storeConstructor(int i) {
            int type = overTelescope(typer.take());
            int g = shelf.addPending(CONSTRUCTOR, declaration.constructors.get(i, 0), type, NONE);
            shelf.set(g, Shelf.PARAMETERS, declaration.bound.count);
            shelf.set(g, Shelf.PARTS, telescope.count - declaration.bound.count);
            shelf.set(g, Shelf.KIN, family);
            typer.add(NEXT_CONSTRUCTOR, i + 1, NONE);
        }
    }

    /** The paper, and how normal forms are written on it. */
    private static final class Printer {
        // Tasks of a print, and of the survey before it.
        private static final int WHOLE = 0;
        private static final int AS_PART = 1;
        private static final int AS_FIRST = 2;
        private static final int WRITE_GAP = 3;
        private static final int WRITE_CLOSING = 4;
        private static final int WRITE_ARROW = 5;
        private static final int WRITE_COMMA = 6;
        private static final int WRITE_DOUBLE_ARROW = 7;
        private static final int OPEN_SCOPE = 8;
        private static final int CLOSE_SCOPE = 9;
        // More names can't clash on one paper.
        private static final int MOST_CLASHES = 4096;
        private static final int LONGEST_NUMBER = 10;
        private final Names names;
        private final Terms terms;
        private final Shelf shelf;
        private byte[] sheet = new byte[256];
        private int length;
        private boolean full;
        private final Pile tasks = new Pile(3);
        // For each fun and all in the order of printing, whether its variable is in its last part.
        private final Pile used = new Pile(1);
        private int binderCount;
        private int[] scopes = new int[64];
        private final byte[] spelling = new byte[LONGEST_NAME + LONGEST_NUMBER];
        private final int[] clashes = new int[MOST_CLASHES];
        private int search;
        private final Pile stack = new Pile(1);

        Printer(Names names, Shelf shelf) {
            this.names = names;
            this.terms = shelf.terms;
            this.shelf = shelf;
        }

        /** How many bytes the line has; NONE, printing nothing, when it would be too much. */
        int printLine(int root) {
            int before = length;
            full = false;
            survey(root);
            Arrays.fill(scopes, 0, terms.binders, NONE);
            binderCount = 0;
            tasks.add(WHOLE, root, NONE);
            for (int left = MANY; left > 0 && tasks.count > 0 && !full; left--) {
                int task = tasks.take();
                int a = tasks.get(tasks.count, 1);
                if (task == WHOLE && terms.kind(a) > APPLY) {
                    printBinder(a);
                } else {
                    print(task, a, tasks.get(tasks.count, 2));
                }
            }
            put(10);
            if (full) {
                length = before;
                return NONE;
            }
            return length - before;
        }

        /** Finds out which variables are used, going through the term in the order of printing. */
        private void survey(int root) {
            if (scopes.length < terms.binders) {
                scopes = new int[2 * terms.binders];
            }
            used.count = 0;
            tasks.count = 0;
            tasks.add(WHOLE, root, NONE);
            for (int left = MANY; left > 0 && tasks.count > 0; left--) {
                int task = tasks.take();
                int a = tasks.get(tasks.count, 1);
                if (task == OPEN_SCOPE) {
                    scopes[a] = tasks.get(tasks.count, 2);
                } else {
                    surveyNode(a);
                }
            }
        }

        private void surveyNode(int node) {
            int kind = terms.kind(node);
            if (kind == VARIABLE) {
                used.set(scopes[terms.ref(node)], 0, 1);
            } else if (kind == APPLY) {
                tasks.add(WHOLE, terms.second(node), NONE);
                tasks.add(WHOLE, terms.first(node), NONE);
            } else if (kind == FUN || kind == ALL) {
                tasks.add(WHOLE, terms.second(node), NONE);
                tasks.add(OPEN_SCOPE, terms.ref(node), used.count);
                tasks.add(WHOLE, terms.first(node), NONE);
                used.add(0);
            }
        }

        private void print(int task, int a, int b) {
            switch (task) {
                case WHOLE: printNode(a); break;
                case AS_PART: printBracketed(a, terms.kind(a) >= APPLY); break;
                case AS_FIRST: printBracketed(a, terms.kind(a) > APPLY); break;
                case WRITE_GAP: put(' '); break;
                case WRITE_CLOSING: put(')'); break;
                case WRITE_ARROW: write(" -> "); break;
                case WRITE_COMMA: write(", "); break;
                case WRITE_DOUBLE_ARROW: write(" => "); break;
                default: scopes[a] = b; break;
            }
        }

        private void printBracketed(int node, boolean bracketed) {
            if (bracketed) {
                put('(');
                tasks.add(WRITE_CLOSING, NONE, NONE);
            }
            tasks.add(WHOLE, node, NONE);
        }

        private void printNode(int node) {
            int ref = terms.ref(node);
            switch (terms.kind(node)) {
                case VARIABLE: writeName(terms.nameOf(ref), scopes[ref]); break;
                case GLOBAL: writeName(shelf.nameOf(ref), 0); break;
                case SORT: writeSort(ref); break;
                case REC:
                    write("rec ");
                    writeName(shelf.nameOf(ref), 0);
                    put(' ');
                    writeSort(terms.first(node));
                    break;
                default:
                    tasks.add(AS_PART, terms.second(node), NONE);
                    tasks.add(WRITE_GAP, NONE, NONE);
                    tasks.add(AS_FIRST, terms.first(node), NONE);
                    break;
            }
        }

        private void printBinder(int node) {
            boolean fun = terms.kind(node) == FUN;
            boolean named = fun || used.get(binderCount, 0) == 1;
            binderCount++;
            if (!named) {
                tasks.add(WHOLE, terms.second(node), NONE);
                tasks.add(WRITE_ARROW, NONE, NONE);
                tasks.add(AS_FIRST, terms.first(node), NONE);
                return;
            }
            int binder = terms.ref(node);
            int name = terms.nameOf(binder);
            int number = leastNumber(name, terms.second(node));
            write(fun ? "fun " : "all ");
            writeName(name, number);
            write(": ");
            tasks.add(CLOSE_SCOPE, binder, NONE);
            tasks.add(WHOLE, terms.second(node), NONE);
            tasks.add(OPEN_SCOPE, binder, number);
            tasks.add(fun ? WRITE_DOUBLE_ARROW : WRITE_COMMA, NONE, NONE);
            tasks.add(WHOLE, terms.first(node), NONE);
        }

        /** The least number that, put to the name, makes it one that nothing else in the last part is printed with. */
        private int leastNumber(int name, int last) {
            search++;
            stack.count = 0;
            stack.add(last);
            for (int left = MANY; left > 0 && stack.count > 0; left--) {
                int node = stack.take();
                int ref = terms.ref(node);
                if (terms.kind(node) == GLOBAL) {
                    noteClash(name, shelf.nameOf(ref), 0);
                } else if (terms.kind(node) == VARIABLE && scopes[ref] != NONE) {
                    noteClash(name, terms.nameOf(ref), scopes[ref]);
                } else if (terms.hasParts(node)) {
                    stack.add(terms.second(node));
                    stack.add(terms.first(node));
                }
            }
            int number = 0;
            while (number < MOST_CLASHES - 1 && clashes[number] == search) {
                number++;
            }
            return number;
        }

        /** If the other name with its number is the name with some number, or without one, that clashes. */
        private void noteClash(int name, int other, int itsNumber) {
            int number = itsNumber;
            if (name != other) {
                number = numberBehind(name, spell(other, itsNumber));
            }
            if (number != NONE && number < MOST_CLASHES) {
                clashes[number] = search;
            }
        }

        private int numberBehind(int name, int size) {
            int own = names.lengthOf(name);
            if (size < own) {
                return NONE;
            }
            for (int i = 0; i < own; i++) {
                if (spelling[i] != names.letter(name, i)) {
                    return NONE;
                }
            }
            int number = 0;
            for (int i = own; i < size; i++) {
                int digit = spelling[i] - '0';
                if (digit < 0 || digit > 9 || (digit == 0 && i == own) || number > MOST_CLASHES) {
                    return NONE;
                }
                number = 10 * number + digit;
            }
            return number;
        }

        /** How many bytes the spelling of a name with its number has, 0 being none. */
        private int spell(int name, int number) {
            int size = names.lengthOf(name);
            for (int i = 0; i < size; i++) {
                spelling[i] = names.letter(name, i);
            }
            int digits = 0;
            for (int rest = number; rest > 0; rest /= 10) {
                digits++;
            }
            int rest = number;
            for (int i = size + digits - 1; i >= size; i--) {
                spelling[i] = (byte) ('0' + rest % 10);
                rest /= 10;
            }
            return size + digits;
        }

        private void writeName(int name, int number) {
            int size = spell(name, number);
            for (int i = 0; i < size; i++) {
                put(spelling[i]);
            }
        }

        private void writeSort(int level) {
            if (level == PROP) {
                write("Prop");
                return;
            }
            write("Type");
            int number = level - TYPE_0;
            if (number > 9) {
                put('0' + number / 10);
            }
            put('0' + number % 10);
        }

        private void write(String text) {
            for (int i = 0; i < text.length(); i++) {
                put(text.charAt(i));
            }
        }

        private void put(int letter) {
            if (length == MOST_PAPER) {
                full = true;
                return;
            }
            if (length == sheet.length) {
                sheet = Arrays.copyOf(sheet, 2 * sheet.length);
            }
            sheet[length] = (byte) letter;
            length++;
        }
    }
}
