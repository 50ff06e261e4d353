import java.util.Arrays;

/**
 * A desk on which diagrams are changed by rules and by programs of rules. The text that tells types,
 * sorts, rules and procs comes by a tape of bytes; README.md says how to use it.
 */
public final class RewriteDesk {
    public static final int NONE = -1;

    private static final int TAPE_ROOM = 4000;
    private static final int FED_AT_ONCE = 20;
    private static final int MOST_STEPS = 40;
    private static final int KEPT_DIAGRAMS = 4;

    private final byte[] tape = new byte[TAPE_ROOM];
    private int tapeSize;
    private int faultPlace = NONE;
    private final Tokens tokens = new Tokens();
    private final Syntax syntax = new Syntax(tokens);
    // A text is built into the spare book, so that one with a fault leaves the book as it is.
    private Book book = new Book();
    private Book spare = new Book();
    private final Builder builder = new Builder(tokens, syntax, spare);
    private final Diagram diagram = new Diagram();
    private final History history = new History(diagram);
    private final Matcher matcher = new Matcher(diagram, book);
    private final Rewriter rewriter = new Rewriter(diagram, matcher, history);
    private final Runner runner = new Runner(diagram, rewriter, history, book);
    private final int[] keptDiagrams = new int[KEPT_DIAGRAMS * Diagram.SIZE];
    private final boolean[] isKept = new boolean[KEPT_DIAGRAMS];
    private final Diagram other = new Diagram();
    private final Twins twins = new Twins(diagram, other);

    public RewriteDesk() {
    }

    public int feed(int a, int b, int c, int d, int e) {
        if (tapeSize > TAPE_ROOM - FED_AT_ONCE) {
            return NONE;
        }
        putWord(a);
        putWord(b);
        putWord(c);
        putWord(d);
        putWord(e);
        return tapeSize;
    }

    public int back(int n) {
        if (n < 0 || n > tapeSize) {
            return NONE;
        }
        tapeSize -= n;
        return tapeSize;
    }

    public int read() {
        tokens.cutUp(tape, tapeSize);
        tapeSize = 0;
        int fault = syntax.check();
        faultPlace = syntax.faultPlace();
        if (fault == 0) {
            fault = builder.fill(spare);
            faultPlace = builder.faultPlace();
        }
        if (fault == 0) {
            install();
        }
        return fault;
    }

    public int place() {
        return faultPlace;
    }

    public int node(int type) {
        if (runner.goesOn() || !book.hasType(type)) {
            return NONE;
        }
        int made = diagram.addNode(type);
        if (made != NONE) {
            history.forget();
        }
        return made;
    }

    public int link(int sort, int from, int to) {
        if (runner.goesOn() || !book.hasSort(sort) || !diagram.hasNode(from) || !diagram.hasNode(to)) {
            return NONE;
        }
        if (!book.leadsFrom(sort, diagram.typeOf(from)) || !book.leadsTo(sort, diagram.typeOf(to))) {
            return NONE;
        }
        int made = diagram.addLink(sort, from, to);
        if (made != NONE) {
            history.forget();
        }
        return made;
    }

    public boolean attribute(int node, int k, int v) {
        if (runner.goesOn() || !diagram.hasNode(node) || k < 0 || k > 1) {
            return false;
        }
        diagram.setNumber(node, k, v);
        history.forget();
        return true;
    }

    public boolean remove(int node) {
        if (runner.goesOn() || !diagram.hasNode(node)) {
            return false;
        }
        if (diagram.linksFrom(node) > 0 || diagram.linksTo(node) > 0) {
            return false;
        }
        diagram.dropNode(node);
        history.forget();
        return true;
    }

    public boolean cut(int link) {
        if (runner.goesOn() || !diagram.hasLink(link)) {
            return false;
        }
        diagram.dropLink(link);
        history.forget();
        return true;
    }

    public int nodeOf(int k, int what) {
        if (what == 1 || what == 2) {
            return diagram.numberOf(k, what - 1);
        }
        if (!diagram.hasNode(k)) {
            return NONE;
        }
        switch (what) {
            case 0:
                return diagram.typeOf(k);
            case 3:
                return diagram.linksFrom(k);
            case 4:
                return diagram.linksTo(k);
            default:
                return NONE;
        }
    }

    public int linkOf(int k, int what) {
        if (!diagram.hasLink(k)) {
            return NONE;
        }
        switch (what) {
            case 0:
                return diagram.sortOf(k);
            case 1:
                return diagram.fromOf(k);
            case 2:
                return diagram.toOf(k);
            default:
                return NONE;
        }
    }

    public int matches(int rule) {
        if (!book.hasRule(rule)) {
            return NONE;
        }
        matcher.aim(book, rule);
        int many = 0;
        for (int turn = 0; turn < Matcher.TURNS && matcher.advance(); turn++) {
            many++;
        }
        return many;
    }

    public boolean match(int rule, int i) {
        if (!book.hasRule(rule) || i < 0) {
            return false;
        }
        matcher.aim(book, rule);
        for (int turn = 0; turn < Matcher.TURNS && matcher.advance(); turn++) {
            if (turn == i) {
                matcher.takeInHand();
                return true;
            }
        }
        return false;
    }

    public int image(int k, boolean link) {
        return link ? matcher.linkInHand(k) : matcher.nodeInHand(k);
    }

    public int apply(int rule) {
        if (runner.goesOn() || !book.hasRule(rule)) {
            return NONE;
        }
        int outcome = rewriter.applyFirst(book, rule);
        if (outcome == Rewriter.BROKEN) {
            return -3;
        }
        return outcome == Rewriter.DONE ? 1 : 0;
    }

    public boolean begin(int proc) {
        if (!book.hasProc(proc)) {
            return false;
        }
        runner.start(book, proc);
        return true;
    }

    public int run(int n) {
        if (!runner.goesOn() || n < 1 || n > MOST_STEPS) {
            return NONE;
        }
        // A proc with an empty row has no step that could bring it to its end.
        runner.settle();
        for (int i = 0; i < n && runner.goesOn(); i++) {
            runner.step();
            runner.settle();
        }
        return runner.goesOn() ? 0 : runner.state();
    }

    public boolean undo(int n) {
        return !runner.goesOn() && history.takeBackLatest(n);
    }

    public boolean keep(int k) {
        if (k < 0 || k >= KEPT_DIAGRAMS) {
            return false;
        }
        diagram.saveTo(keptDiagrams, k);
        isKept[k] = true;
        return true;
    }

    public int same(int k) {
        if (k < 0 || k >= KEPT_DIAGRAMS || !isKept[k]) {
            return NONE;
        }
        other.loadFrom(keptDiagrams, k);
        if (diagram.nodeCount() > Twins.MOST_NODES || other.nodeCount() > Twins.MOST_NODES) {
            return -2;
        }
        return twins.areAlike() ? 1 : 0;
    }

    public int count(int what) {
        switch (what) {
            case 0:
                return diagram.nodeCount();
            case 1:
                return diagram.linkCount();
            case 2:
                return book.types;
            case 3:
                return book.sorts;
            case 4:
                return book.rules;
            case 5:
                return book.procs;
            case 6:
                return history.kept();
            case 7:
                return runner.steps();
            case 8:
                return runner.state();
            case 9:
                return tapeSize;
            case 10:
                return runner.openCount();
            default:
                return NONE;
        }
    }

    /** A cell of a row; NONE outside of it. */
    private static int cellAt(int[] row, int i) {
        return i >= 0 && i < row.length ? row[i] : NONE;
    }

    private static void setCell(int[] row, int i, int value) {
        if (i >= 0 && i < row.length) {
            row[i] = value;
        }
    }

    private void putWord(int word) {
        for (int shift = 24; shift >= 0; shift -= 8) {
            if (tapeSize < TAPE_ROOM) {
                tape[tapeSize] = (byte) (word >> shift);
                tapeSize++;
            }
        }
    }

    private void install() {
        Book filled = spare;
        spare = book;
        book = filled;
        diagram.clear();
        history.forget();
        runner.clear();
        // The rule that the match at hand was of is gone.
        matcher.emptyHand();
        for (int k = 0; k < KEPT_DIAGRAMS; k++) {
            isKept[k] = false;
        }
    }

    /** The text cut into tokens: one more than there is room for at most, or up to what is none. */
    private static final class Tokens {
        static final int MOST = 1200;

        // The words stand in the order of WORDS, the signs of one character in that of SIGNS.
        static final int TYPE = 0, OF = 1, SORT = 2, RULE = 3, PROC = 4, END = 5;
        static final int NODE = 6, LINK = 7, MERGE = 8, NOT = 9, IF = 10;
        static final int DEL = 11, NEW = 12, JOIN = 13, SET = 14;
        static final int DO = 15, ALL = 16, ANY = 17, CALL = 18, FAIL = 19;
        static final int WHILE = 20, LOOP = 21, TRY = 22, THEN = 23, ELSE = 24;
        static final int COLON = 25, SEMICOLON = 26, DOT = 27, COMMA = 28, ASSIGN = 29, LESS = 30;
        static final int PLUS = 31, MINUS = 32, TIMES = 33, OPEN = 34, CLOSE = 35;
        static final int EQUAL = 36, UNEQUAL = 37, UPTO = 38, ARROW = 39;
        static final int NAME = 40, INT = 41, STOP = 42, BAD = 43;

        private static final String WORDS = "type of sort rule proc end node link merge not if del new join set do all any call fail while loop try then else ";
        private static final String SIGNS = ":;.,=<+-*()";
        private static final int WORD_COUNT = 25;
        private static final int LONGEST_NAME = 8;
        private static final int LONGEST_INT = 9;

        private final long[] words = new long[WORD_COUNT];
        private final int[] kinds = new int[MOST + 1];
        private final int[] places = new int[MOST + 1];
        private final long[] values = new long[MOST + 1];
        private int many;

        Tokens() {
            int word = 0;
            long code = 0;
            for (int i = 0; i < WORDS.length() && word < WORD_COUNT; i++) {
                char c = WORDS.charAt(i);
                if (c == ' ') {
                    words[word] = code;
                    word++;
                    code = 0;
                } else {
                    code = code << 8 | c;
                }
            }
        }

        void cutUp(byte[] text, int length) {
            many = 0;
            int size = Math.min(length, text.length);
            int at = 0;
            for (int turn = 0; turn <= MOST; turn++) {
                at = behindBlanks(text, size, at);
                if (at >= size) {
                    put(STOP, size, 0);
                    return;
                }
                at = takeToken(text, size, at);
                if (kindAt(many - 1) == BAD) {
                    return;
                }
            }
        }

        int kindAt(int i) {
            return i >= 0 && i < many ? kinds[i] : STOP;
        }

        int placeAt(int i) {
            return i >= 0 && i < many ? places[i] : NONE;
        }

        /** A name's characters in one number, or what an int tells. */
        long valueAt(int i) {
            return i >= 0 && i < many ? values[i] : 0;
        }

        private void put(int kind, int place, long value) {
            if (many <= MOST) {
                kinds[many] = kind;
                places[many] = place;
                values[many] = value;
                many++;
            }
        }

        private static int byteAt(byte[] text, int size, int at) {
            return at >= 0 && at < size && at < text.length ? text[at] & 255 : 0;
        }

        private static boolean isDigit(int c) {
            return c >= '0' && c <= '9';
        }

        private static boolean isLetter(int c) {
            return c >= 'a' && c <= 'z';
        }

        private static int behindBlanks(byte[] text, int size, int start) {
            for (int at = start; at < size; at++) {
                int c = byteAt(text, size, at);
                if (c != 9 && c != 10 && c != 13 && c != 32) {
                    return at;
                }
            }
            return size;
        }

        private int takeToken(byte[] text, int size, int at) {
            int c = byteAt(text, size, at);
            if (isLetter(c)) {
                return takeWord(text, size, at);
            }
            if (isDigit(c)) {
                return takeInt(text, size, at);
            }
            int kind = signKind(c, byteAt(text, size, at + 1));
            put(kind, at, 0);
            return kind >= EQUAL && kind <= ARROW ? at + 2 : at + 1;
        }

        private int takeWord(byte[] text, int size, int start) {
            long code = 0;
            int at = start;
            for (; at < size; at++) {
                int c = byteAt(text, size, at);
                if (!isLetter(c) && !isDigit(c)) {
                    break;
                }
                code = code << 8 | c;
            }
            if (at - start > LONGEST_NAME) {
                put(BAD, start, 0);
            } else {
                put(wordKind(code), start, code);
            }
            return at;
        }

        private int wordKind(long code) {
            for (int i = 0; i < WORD_COUNT; i++) {
                if (words[i] == code) {
                    return i;
                }
            }
            return NAME;
        }

        private int takeInt(byte[] text, int size, int start) {
            long value = 0;
            int at = start;
            for (; at < size; at++) {
                int c = byteAt(text, size, at);
                if (!isDigit(c)) {
                    break;
                }
                value = value * 10 + (c - '0');
            }
            put(at - start > LONGEST_INT ? BAD : INT, start, value);
            return at;
        }

        private static int signKind(int c, int next) {
            if (c == '!') {
                return next == '=' ? UNEQUAL : BAD;
            }
            if (c == '=' && next == '=') {
                return EQUAL;
            }
            if (c == '<' && next == '=') {
                return UPTO;
            }
            if (c == '-' && next == '>') {
                return ARROW;
            }
            int single = SIGNS.indexOf((char) c);
            return single < 0 ? BAD : COLON + single;
        }
    }

    /** Looks for the faults of syntax and of room, and notes the rules and procs that are told. */
    private static final class Syntax {
        private static final int SYNTAX = 1;
        private static final int ROOM = 2;
        private static final int MOST_OPEN = 8;

        private final Tokens tokens;
        private final long[] ruleNames = new long[Book.RULES];
        private final long[] procNames = new long[Book.PROCS];
        private int types;
        private int sorts;
        private int rules;
        private int procs;
        // The token at hand; behind a fault it stays where the fault is.
        private int at;
        private int fault;

        Syntax(Tokens tokens) {
            this.tokens = tokens;
        }

        int check() {
            types = 0;
            sorts = 0;
            rules = 0;
            procs = 0;
            at = 0;
            fault = 0;
            for (int turn = 0; turn <= Tokens.MOST && fault == 0 && !sees(Tokens.STOP); turn++) {
                if (sees(Tokens.TYPE)) {
                    checkType();
                } else if (sees(Tokens.SORT)) {
                    checkSort();
                } else if (sees(Tokens.RULE)) {
                    checkRule();
                } else if (sees(Tokens.PROC)) {
                    checkProc();
                } else {
                    fail(SYNTAX);
                }
            }
            return fault;
        }

        int faultPlace() {
            return fault == 0 ? NONE : tokens.placeAt(at);
        }

        int ruleCount() {
            return rules;
        }

        int procCount() {
            return procs;
        }

        long ruleName(int i) {
            return i >= 0 && i < rules && i < Book.RULES ? ruleNames[i] : 0;
        }

        long procName(int i) {
            return i >= 0 && i < procs && i < Book.PROCS ? procNames[i] : 0;
        }

        private void fail(int number) {
            if (fault == 0) {
                fault = number;
            }
        }

        // Behind a fault nothing is seen any more: every loop over what is seen ends there.
        private boolean sees(int kind) {
            return fault == 0 && tokens.kindAt(at) == kind;
        }

        /** Goes on behind the token at hand, which has been seen to be one that fits. */
        private void pass() {
            if (fault == 0 && at >= Tokens.MOST) {
                fault = ROOM;
            }
            if (fault == 0) {
                at++;
            }
        }

        private void need(int kind) {
            if (sees(kind)) {
                pass();
            } else {
                fail(SYNTAX);
            }
        }

        private void needRoom(boolean isThere) {
            if (!isThere) {
                fail(ROOM);
            }
        }

        private void needNewName(boolean hasRoom) {
            if (sees(Tokens.NAME)) {
                needRoom(hasRoom);
            }
            need(Tokens.NAME);
        }

        private void checkType() {
            pass();
            needNewName(types < Book.TYPES);
            types++;
            if (sees(Tokens.OF)) {
                pass();
                need(Tokens.NAME);
            }
            need(Tokens.SEMICOLON);
        }

        private void checkSort() {
            pass();
            needNewName(sorts < Book.SORTS);
            sorts++;
            need(Tokens.COLON);
            need(Tokens.NAME);
            need(Tokens.ARROW);
            need(Tokens.NAME);
            need(Tokens.SEMICOLON);
        }

        private void checkRule() {
            pass();
            long name = tokens.valueAt(at);
            needNewName(rules < Book.RULES);
            if (rules < Book.RULES) {
                ruleNames[rules] = name;
                rules++;
            }
            checkLefts(Rule.NODES, Rule.LINKS, true);
            for (int nots = 0; nots <= Rule.NOTS && sees(Tokens.NOT); nots++) {
                needRoom(nots < Rule.NOTS);
                pass();
                checkLefts(Rule.NOT_NODES, Rule.NOT_LINKS, false);
                need(Tokens.END);
            }
            for (int tests = 0; tests <= Rule.TESTS && sees(Tokens.IF); tests++) {
                needRoom(tests < Rule.TESTS);
                checkTest();
            }
            for (int does = 0; does <= Rule.DOES && seesDoes(); does++) {
                needRoom(does < Rule.DOES);
                checkDoes();
            }
            need(Tokens.END);
        }

        private void checkLefts(int nodeRoom, int linkRoom, boolean canMerge) {
            int nodes = 0;
            int links = 0;
            for (int turn = 0; turn <= Tokens.MOST; turn++) {
                if (sees(Tokens.NODE)) {
                    pass();
                    needNewName(nodes < nodeRoom);
                    nodes++;
                    need(Tokens.COLON);
                    need(Tokens.NAME);
                } else if (sees(Tokens.LINK)) {
                    pass();
                    needNewName(links < linkRoom);
                    links++;
                    need(Tokens.COLON);
                    checkWay();
                } else if (canMerge && sees(Tokens.MERGE)) {
                    pass();
                } else {
                    return;
                }
                need(Tokens.SEMICOLON);
            }
        }

        private void checkWay() {
            need(Tokens.NAME);
            need(Tokens.MINUS);
            need(Tokens.NAME);
            need(Tokens.ARROW);
            need(Tokens.NAME);
        }

        private void checkTest() {
            pass();
            checkSum();
            if (sees(Tokens.EQUAL) || sees(Tokens.UNEQUAL) || sees(Tokens.LESS) || sees(Tokens.UPTO)) {
                pass();
            } else {
                fail(SYNTAX);
            }
            checkSum();
            need(Tokens.SEMICOLON);
        }

        private boolean seesDoes() {
            return sees(Tokens.DEL) || sees(Tokens.NEW) || sees(Tokens.JOIN) || sees(Tokens.SET);
        }

        private void checkDoes() {
            if (sees(Tokens.DEL)) {
                pass();
                need(Tokens.NAME);
            } else if (sees(Tokens.NEW)) {
                pass();
                need(Tokens.NAME);
                need(Tokens.COLON);
                need(Tokens.NAME);
            } else if (sees(Tokens.JOIN)) {
                pass();
                checkWay();
            } else {
                pass();
                need(Tokens.NAME);
                need(Tokens.DOT);
                need(Tokens.INT);
                need(Tokens.ASSIGN);
                checkSum();
            }
            need(Tokens.SEMICOLON);
        }

        /** An E: units with signs between them; a '-' may stand ahead of it, and behind each '('. */
        private void checkSum() {
            int open = 0;
            boolean atFirst = true;
            for (int turn = 0; turn <= Tokens.MOST && fault == 0; turn++) {
                if (atFirst && sees(Tokens.MINUS)) {
                    pass();
                }
                atFirst = sees(Tokens.OPEN);
                if (atFirst) {
                    needRoom(open < MOST_OPEN);
                    pass();
                    open++;
                    continue;
                }
                if (sees(Tokens.INT)) {
                    pass();
                } else {
                    need(Tokens.NAME);
                    need(Tokens.DOT);
                    need(Tokens.INT);
                }
                for (; open > 0 && sees(Tokens.CLOSE); open--) {
                    pass();
                }
                if (!sees(Tokens.PLUS) && !sees(Tokens.MINUS) && !sees(Tokens.TIMES)) {
                    if (open > 0) {
                        fail(SYNTAX);
                    }
                    return;
                }
                pass();
            }
        }

        private void checkProc() {
            pass();
            long name = tokens.valueAt(at);
            needNewName(procs < Book.PROCS);
            if (procs < Book.PROCS) {
                procNames[procs] = name;
                procs++;
            }
            checkRow(0);
            need(Tokens.END);
        }

        private void checkRow(int open) {
            for (int turn = 0; turn <= Tokens.MOST && open <= MOST_OPEN; turn++) {
                if (sees(Tokens.WHILE) || sees(Tokens.LOOP) || sees(Tokens.TRY)) {
                    checkRows(open);
                } else if (sees(Tokens.DO) || sees(Tokens.ALL) || sees(Tokens.CALL)) {
                    pass();
                    need(Tokens.NAME);
                    need(Tokens.SEMICOLON);
                } else if (sees(Tokens.FAIL)) {
                    pass();
                    need(Tokens.SEMICOLON);
                } else if (sees(Tokens.ANY)) {
                    checkAny();
                } else {
                    return;
                }
            }
        }

        private void checkAny() {
            pass();
            need(Tokens.NAME);
            for (int turn = 0; turn <= Tokens.MOST && sees(Tokens.COMMA); turn++) {
                pass();
                need(Tokens.NAME);
            }
            need(Tokens.SEMICOLON);
        }

        private void checkRows(int open) {
            needRoom(open < MOST_OPEN);
            if (sees(Tokens.TRY)) {
                pass();
                checkRow(open + 1);
                need(Tokens.THEN);
                checkRow(open + 1);
                need(Tokens.ELSE);
            } else if (sees(Tokens.LOOP)) {
                pass();
                need(Tokens.INT);
            } else {
                pass();
            }
            checkRow(open + 1);
            need(Tokens.END);
        }
    }

    /** What a text tells: types, sorts, rules, procs, and the code of their sums and rows. */
    private static final class Book {
        static final int TYPES = 12;
        static final int SORTS = 12;
        static final int RULES = 20;
        static final int PROCS = 10;

        // What a piece of a sum's code does; it stands behind the code of what it works on.
        static final int NUMBER = 0, LOOK = 1, NEGATE = 2, ADD = 3, SUBTRACT = 4, MULTIPLY = 5;

        // The parts of a do. KIND is that of its word; the alternatives of an any are a row too.
        static final int KIND = 0, VALUE = 1, NEXT = 2, ROW = 3, THEN_ROW = 4, ELSE_ROW = 5;
        private static final int DO_PARTS = 6;

        int types;
        int sorts;
        int rules;
        int procs;
        private int codes;
        private int dos;
        private final int[] elders = new int[TYPES];
        private final int[] sortFrom = new int[SORTS];
        private final int[] sortTo = new int[SORTS];
        private final Rule[] ruleRow = new Rule[RULES];
        private final int[] procRow = new int[PROCS];
        private final int[] codeKinds = new int[Tokens.MOST];
        private final int[] codeValues = new int[Tokens.MOST];
        private final int[] doParts = new int[Tokens.MOST * DO_PARTS];

        Book() {
            for (int i = 0; i < RULES; i++) {
                ruleRow[i] = new Rule();
            }
        }

        void clear() {
            types = 0;
            sorts = 0;
            rules = 0;
            procs = 0;
            codes = 0;
            dos = 0;
        }

        boolean hasType(int type) {
            return type >= 0 && type < types && type < TYPES;
        }

        boolean hasSort(int sort) {
            return sort >= 0 && sort < sorts && sort < SORTS;
        }

        boolean hasRule(int rule) {
            return rule >= 0 && rule < rules && rule < RULES;
        }

        boolean hasProc(int proc) {
            return proc >= 0 && proc < procs && proc < PROCS;
        }

        /** Whether a type is of another one: it itself, or one of its elders. */
        boolean isOf(int type, int wanted) {
            int one = type;
            for (int turn = 0; turn < TYPES && one >= 0 && one < types && one < TYPES; turn++) {
                if (one == wanted) {
                    return true;
                }
                one = elders[one];
            }
            return false;
        }

        boolean leadsFrom(int sort, int type) {
            return hasSort(sort) && isOf(type, sortFrom[sort]);
        }

        boolean leadsTo(int sort, int type) {
            return hasSort(sort) && isOf(type, sortTo[sort]);
        }

        Rule ruleAt(int i) {
            return i >= 0 && i < RULES ? ruleRow[i] : ruleRow[0];
        }

        int procStart(int proc) {
            return hasProc(proc) ? procRow[proc] : NONE;
        }

        void addType(int elder) {
            if (types < TYPES) {
                elders[types] = elder;
                types++;
            }
        }

        void addSort(int from, int to) {
            if (sorts < SORTS) {
                sortFrom[sorts] = from;
                sortTo[sorts] = to;
                sorts++;
            }
        }

        void addRule() {
            if (rules < RULES) {
                rules++;
            }
        }

        void addProc(int row) {
            if (procs < PROCS) {
                procRow[procs] = row;
                procs++;
            }
        }

        int codeCount() {
            return codes;
        }

        int codeKind(int i) {
            return i >= 0 && i < codes && i < Tokens.MOST ? codeKinds[i] : NUMBER;
        }

        int codeValue(int i) {
            return i >= 0 && i < codes && i < Tokens.MOST ? codeValues[i] : 0;
        }

        void addCode(int kind, int value) {
            if (codes < Tokens.MOST) {
                codeKinds[codes] = kind;
                codeValues[codes] = value;
                codes++;
            }
        }

        int addDo(int kind) {
            if (dos >= Tokens.MOST) {
                return NONE;
            }
            int made = dos;
            dos++;
            for (int part = 0; part < DO_PARTS; part++) {
                setCell(doParts, made * DO_PARTS + part, part == KIND ? kind : NONE);
            }
            return made;
        }

        int doPart(int i, int part) {
            return i >= 0 && i < dos ? cellAt(doParts, i * DO_PARTS + part) : NONE;
        }

        void setDoPart(int i, int part, int value) {
            if (i >= 0 && i < dos) {
                setCell(doParts, i * DO_PARTS + part, value);
            }
        }
    }

    /** A rule: what is to be found, what must not be, tests, and what it does. */
    private static final class Rule {
        static final int NODES = 4;
        static final int LINKS = 6;
        static final int NOTS = 2;
        static final int NOT_NODES = 1;
        static final int NOT_LINKS = 3;
        static final int TESTS = 4;
        static final int DOES = 8;

        // A NOT's own node, and the first of the new ones, have the number behind the rule's nodes.
        static final int OWN = NODES;
        // A link that is deleted; a node that is has the word's kind.
        static final int DEL_LINK = Tokens.LINK;
        private static final int ALL_LINKS = LINKS + NOTS * NOT_LINKS;
        private static final int SUMS = 2 * TESTS + DOES;

        int nodes;
        int links;
        int nots;
        int tests;
        int does;
        int deletedNodes;
        boolean merges;
        final int[] nodeType = new int[NODES];
        final int[] notType = new int[NOTS];
        final int[] notLinks = new int[NOTS];
        // The links of the NOTs stand behind the rule's.
        final int[] linkSort = new int[ALL_LINKS];
        final int[] linkFrom = new int[ALL_LINKS];
        final int[] linkTo = new int[ALL_LINKS];
        final int[] testKind = new int[TESTS];
        final int[] doesKind = new int[DOES];
        final int[] doesWhat = new int[DOES];
        final int[] doesHow = new int[DOES];
        final int[] doesTo = new int[DOES];
        // Two sums of each test, and one of each of what it does.
        final int[] sumStart = new int[SUMS];
        final int[] sumEnd = new int[SUMS];

        void clear() {
            nodes = 0;
            links = 0;
            nots = 0;
            tests = 0;
            does = 0;
            deletedNodes = 0;
            merges = false;
        }

        static int sumOfTest(int test, int side) {
            return 2 * test + side;
        }

        static int sumOfDoes(int one) {
            return 2 * TESTS + one;
        }

        /** Where the links of a NOT begin. */
        static int linksOfNot(int not) {
            return LINKS + not * NOT_LINKS;
        }

        int addNode(int type) {
            if (nodes >= NODES) {
                return NONE;
            }
            nodeType[nodes] = type;
            nodes++;
            return nodes - 1;
        }

        void addNot() {
            if (nots < NOTS) {
                notType[nots] = NONE;
                notLinks[nots] = 0;
                nots++;
            }
        }

        int addLink(int sort, int from, int to) {
            if (links >= LINKS) {
                return NONE;
            }
            setLink(links, sort, from, to);
            links++;
            return links - 1;
        }

        void addNotLink(int not, int sort, int from, int to) {
            if (not >= 0 && not < NOTS && notLinks[not] < NOT_LINKS) {
                setLink(linksOfNot(not) + notLinks[not], sort, from, to);
                notLinks[not]++;
            }
        }

        private void setLink(int link, int sort, int from, int to) {
            setCell(linkSort, link, sort);
            setCell(linkFrom, link, from);
            setCell(linkTo, link, to);
        }

        void addTest(int kind) {
            if (tests < TESTS) {
                testKind[tests] = kind;
                tests++;
            }
        }

        void addDoes(int kind, int what, int how, int to) {
            if (does < DOES) {
                doesKind[does] = kind;
                doesWhat[does] = what;
                doesHow[does] = how;
                doesTo[does] = to;
                does++;
            }
        }
    }

    /** Fills a book from a text that has no fault of syntax or room; looks for the other faults. */
    private static final class Builder {
        private static final int TWICE = 3;
        private static final int UNKNOWN = 4;
        private static final int MISFIT = 5;
        private static final int MOST_LOOPED = 100;

        // What a name in a rule can be; where several will do they are added up.
        private static final int A_NODE = 1;
        private static final int A_LINK = 2;
        private static final int A_NEW = 4;
        private static final int MOST_TOLD = Rule.NODES + Rule.LINKS + Rule.DOES + Rule.NOT_NODES + Rule.NOT_LINKS;

        private final Tokens tokens;
        private final Syntax syntax;
        private final long[] typeNames = new long[Book.TYPES];
        private final long[] sortNames = new long[Book.SORTS];
        // The names that are told in the rule at hand.
        private final long[] toldName = new long[MOST_TOLD];
        private final int[] toldKind = new int[MOST_TOLD];
        private final int[] toldNumber = new int[MOST_TOLD];
        private final int[] toldType = new int[MOST_TOLD];
        private final boolean[] isGone = new boolean[MOST_TOLD];
        private int told;
        private int newNodes;
        // The nodes that a join leads from or to, as bits.
        private int joined;
        private Book book;
        private Rule rule;
        private int at;
        private int fault;
        private int faultAt;

        Builder(Tokens tokens, Syntax syntax, Book book) {
            this.tokens = tokens;
            this.syntax = syntax;
            this.book = book;
            this.rule = book.ruleAt(0);
        }

        int fill(Book target) {
            book = target;
            book.clear();
            at = 0;
            fault = 0;
            for (int turn = 0; turn <= Tokens.MOST && kind() != Tokens.STOP; turn++) {
                if (kind() == Tokens.TYPE) {
                    buildType();
                } else if (kind() == Tokens.SORT) {
                    buildSort();
                } else if (kind() == Tokens.RULE) {
                    buildRule();
                } else {
                    buildProc();
                }
            }
            return fault;
        }

        int faultPlace() {
            return fault == 0 ? NONE : tokens.placeAt(faultAt);
        }

        private int kind() {
            return tokens.kindAt(at);
        }

        // The text is gone through from its beginning on, so that the first fault is the one that counts.
        private void fail(int number) {
            if (fault == 0) {
                fault = number;
                faultAt = at;
            }
        }

        private static int find(long[] names, int many, long name) {
            for (int i = 0; i < many && i < names.length; i++) {
                if (names[i] == name) {
                    return i;
                }
            }
            return NONE;
        }

        private int takeType() {
            int type = find(typeNames, book.types, tokens.valueAt(at));
            if (type == NONE) {
                fail(UNKNOWN);
            }
            at++;
            return type;
        }

        private int takeSort() {
            int sort = find(sortNames, book.sorts, tokens.valueAt(at));
            if (sort == NONE) {
                fail(UNKNOWN);
            }
            at++;
            return sort;
        }

        private void buildType() {
            at++;
            long name = tokens.valueAt(at);
            if (find(typeNames, book.types, name) != NONE) {
                fail(TWICE);
            }
            at++;
            int elder = NONE;
            if (kind() == Tokens.OF) {
                at++;
                elder = takeType();
            }
            if (book.types < Book.TYPES) {
                typeNames[book.types] = name;
            }
            book.addType(elder);
            at++;
        }

        private void buildSort() {
            at++;
            long name = tokens.valueAt(at);
            if (find(sortNames, book.sorts, name) != NONE) {
                fail(TWICE);
            }
            at += 2;
            int from = takeType();
            at++;
            int to = takeType();
            if (book.sorts < Book.SORTS) {
                sortNames[book.sorts] = name;
            }
            book.addSort(from, to);
            at++;
        }

        /** The name of a rule or proc, which no rule or proc ahead may have. */
        private void takeHead() {
            long name = tokens.valueAt(at);
            for (int i = 0; i < book.rules; i++) {
                if (syntax.ruleName(i) == name) {
                    fail(TWICE);
                }
            }
            for (int i = 0; i < book.procs; i++) {
                if (syntax.procName(i) == name) {
                    fail(TWICE);
                }
            }
            at++;
        }

        private void buildRule() {
            at++;
            takeHead();
            rule = book.ruleAt(book.rules);
            rule.clear();
            told = 0;
            newNodes = 0;
            joined = 0;
            buildLefts(NONE);
            for (int turn = 0; turn <= Tokens.MOST && kind() == Tokens.NOT; turn++) {
                int ahead = told;
                at++;
                rule.addNot();
                buildLefts(rule.nots - 1);
                at++;
                told = ahead;
            }
            for (int turn = 0; turn <= Tokens.MOST && kind() == Tokens.IF; turn++) {
                buildTest();
            }
            for (int turn = 0; turn <= Tokens.MOST && kind() != Tokens.END; turn++) {
                int kind = kind();
                at++;
                switch (kind) {
                    case Tokens.DEL:
                        buildDel();
                        break;
                    case Tokens.NEW:
                        buildNew();
                        break;
                    case Tokens.JOIN:
                        buildJoin();
                        break;
                    default:
                        buildSet();
                        break;
                }
                at++;
            }
            at++;
            book.addRule();
        }

        /** Where a name of the rule's stands that is one of these kinds and not deleted yet. */
        private int findTold(long name, int kinds) {
            for (int i = 0; i < told && i < MOST_TOLD; i++) {
                if (toldName[i] == name && (toldKind[i] & kinds) != 0 && !isGone[i]) {
                    return i;
                }
            }
            return NONE;
        }

        private int takeTold(int kinds) {
            int found = findTold(tokens.valueAt(at), kinds);
            if (found == NONE) {
                fail(UNKNOWN);
            }
            at++;
            return found;
        }

        private int takeNode() {
            return cellAt(toldNumber, takeTold(A_NODE));
        }

        private long takeNewName() {
            long name = tokens.valueAt(at);
            for (int i = 0; i < told && i < MOST_TOLD; i++) {
                if (toldName[i] == name) {
                    fail(TWICE);
                }
            }
            at++;
            return name;
        }

        private void tell(long name, int kind, int number, int type) {
            if (told < MOST_TOLD) {
                toldName[told] = name;
                toldKind[told] = kind;
                toldNumber[told] = number;
                toldType[told] = type;
                isGone[told] = false;
                told++;
            }
        }

        /** The nodes and links of the rule, or of a NOT. */
        private void buildLefts(int not) {
            for (int turn = 0; turn <= Tokens.MOST; turn++) {
                if (kind() == Tokens.NODE) {
                    at++;
                    buildNode(not);
                } else if (kind() == Tokens.LINK) {
                    at++;
                    buildLink(not);
                } else if (kind() == Tokens.MERGE) {
                    at++;
                    rule.merges = true;
                } else {
                    return;
                }
                at++;
            }
        }

        private void buildNode(int not) {
            long name = takeNewName();
            at++;
            int type = takeType();
            int number = Rule.OWN;
            if (not == NONE) {
                number = rule.addNode(type);
            } else {
                setCell(rule.notType, not, type);
            }
            tell(name, A_NODE, number, type);
        }

        private void buildLink(int not) {
            long name = takeNewName();
            at++;
            int from = takeNode();
            at++;
            int sort = takeSort();
            at++;
            int to = takeNode();
            int number = NONE;
            if (not == NONE) {
                number = rule.addLink(sort, from, to);
            } else {
                rule.addNotLink(not, sort, from, to);
            }
            tell(name, A_LINK, number, NONE);
        }

        private void buildTest() {
            int test = rule.tests;
            at++;
            setCell(rule.sumStart, Rule.sumOfTest(test, 0), book.codeCount());
            buildSum(0);
            setCell(rule.sumEnd, Rule.sumOfTest(test, 0), book.codeCount());
            rule.addTest(kind());
            at++;
            setCell(rule.sumStart, Rule.sumOfTest(test, 1), book.codeCount());
            buildSum(0);
            setCell(rule.sumEnd, Rule.sumOfTest(test, 1), book.codeCount());
            at++;
        }

        private void buildDel() {
            int found = findTold(tokens.valueAt(at), A_NODE | A_LINK);
            if (found == NONE || found >= MOST_TOLD) {
                fail(UNKNOWN);
                at++;
                return;
            }
            int number = toldNumber[found];
            isGone[found] = true;
            if (toldKind[found] == A_LINK) {
                rule.addDoes(Rule.DEL_LINK, number, NONE, NONE);
            } else {
                if (isHeld(number)) {
                    fail(MISFIT);
                }
                rule.addDoes(Tokens.DEL, number, NONE, NONE);
                rule.deletedNodes |= 1 << number;
            }
            at++;
        }

        /** Whether a link of the rule that is there still, or a join, leads from or to a node. */
        private boolean isHeld(int node) {
            for (int i = 0; i < told && i < MOST_TOLD; i++) {
                if (toldKind[i] == A_LINK && !isGone[i]) {
                    int link = toldNumber[i];
                    if (cellAt(rule.linkFrom, link) == node || cellAt(rule.linkTo, link) == node) {
                        return true;
                    }
                }
            }
            return (joined >> node & 1) == 1;
        }

        private void buildNew() {
            long name = takeNewName();
            at++;
            int type = takeType();
            int number = Rule.OWN + newNodes;
            newNodes++;
            rule.addDoes(Tokens.NEW, number, type, NONE);
            tell(name, A_NEW, number, type);
        }

        private void buildJoin() {
            int from = takeTold(A_NODE | A_NEW);
            at++;
            // The sort's own fault comes ahead of one at the name behind it, which it needs to know.
            int to = findTold(tokens.valueAt(at + 2), A_NODE | A_NEW);
            int sort = find(sortNames, book.sorts, tokens.valueAt(at));
            if (sort == NONE) {
                fail(UNKNOWN);
            } else if (from != NONE && !book.leadsFrom(sort, cellAt(toldType, from))) {
                fail(MISFIT);
            } else if (to != NONE && !book.leadsTo(sort, cellAt(toldType, to))) {
                fail(MISFIT);
            }
            at += 2;
            takeTold(A_NODE | A_NEW);
            int fromNumber = cellAt(toldNumber, from);
            int toNumber = cellAt(toldNumber, to);
            rule.addDoes(Tokens.JOIN, fromNumber, sort, toNumber);
            joined |= bitOf(fromNumber) | bitOf(toNumber);
        }

        private static int bitOf(int number) {
            return number >= 0 ? 1 << number : 0;
        }

        private void buildSet() {
            int what = takeTold(A_NODE | A_NEW);
            at++;
            int k = takeIndex();
            at++;
            int sum = Rule.sumOfDoes(rule.does);
            setCell(rule.sumStart, sum, book.codeCount());
            buildSum(0);
            setCell(rule.sumEnd, sum, book.codeCount());
            rule.addDoes(Tokens.SET, cellAt(toldNumber, what), k, NONE);
        }

        private int takeIndex() {
            long k = tokens.valueAt(at);
            if (k > 1) {
                fail(MISFIT);
            }
            at++;
            return (int) k;
        }

        private void buildSum(int depth) {
            boolean isNegative = kind() == Tokens.MINUS;
            if (isNegative) {
                at++;
            }
            int sign = NONE;
            for (int turn = 0; turn <= Tokens.MOST; turn++) {
                buildUnit(depth);
                for (int more = 0; more <= Tokens.MOST && kind() == Tokens.TIMES; more++) {
                    at++;
                    buildUnit(depth);
                    book.addCode(Book.MULTIPLY, 0);
                }
                if (isNegative) {
                    book.addCode(Book.NEGATE, 0);
                    isNegative = false;
                }
                if (sign != NONE) {
                    book.addCode(sign == Tokens.PLUS ? Book.ADD : Book.SUBTRACT, 0);
                }
                sign = kind();
                if (sign != Tokens.PLUS && sign != Tokens.MINUS) {
                    return;
                }
                at++;
            }
        }

        private void buildUnit(int depth) {
            if (kind() == Tokens.INT) {
                book.addCode(Book.NUMBER, (int) tokens.valueAt(at));
                at++;
            } else if (kind() == Tokens.OPEN && depth < Syntax.MOST_OPEN) {
                at++;
                buildSum(depth + 1);
                at++;
            } else {
                int node = cellAt(toldNumber, takeTold(A_NODE));
                at++;
                int k = takeIndex();
                book.addCode(Book.LOOK, 2 * node + k);
            }
        }

        private void buildProc() {
            at++;
            takeHead();
            int row = buildRow(0);
            at++;
            book.addProc(row);
        }

        /** The first do of a row; NONE of an empty one. */
        private int buildRow(int depth) {
            int first = NONE;
            int last = NONE;
            for (int turn = 0; turn <= Tokens.MOST && startsDo(); turn++) {
                int made = buildDo(depth);
                if (last == NONE) {
                    first = made;
                } else {
                    book.setDoPart(last, Book.NEXT, made);
                }
                last = made;
            }
            return first;
        }

        private boolean startsDo() {
            return kind() >= Tokens.DO && kind() <= Tokens.TRY;
        }

        private int buildDo(int depth) {
            int kind = kind();
            int made = book.addDo(kind);
            at++;
            if (kind == Tokens.DO || kind == Tokens.ALL) {
                book.setDoPart(made, Book.VALUE, takeRule());
            } else if (kind == Tokens.CALL) {
                book.setDoPart(made, Book.VALUE, takeProc());
            } else if (kind == Tokens.ANY) {
                book.setDoPart(made, Book.ROW, buildAlternatives());
            } else if (kind != Tokens.FAIL && depth < Syntax.MOST_OPEN) {
                if (kind == Tokens.LOOP) {
                    book.setDoPart(made, Book.VALUE, takeTurns());
                }
                book.setDoPart(made, Book.ROW, buildRow(depth + 1));
                if (kind == Tokens.TRY) {
                    at++;
                    book.setDoPart(made, Book.THEN_ROW, buildRow(depth + 1));
                    at++;
                    book.setDoPart(made, Book.ELSE_ROW, buildRow(depth + 1));
                }
            }
            at++;
            return made;
        }

        private int buildAlternatives() {
            int first = book.addDo(Tokens.DO);
            book.setDoPart(first, Book.VALUE, takeRule());
            int last = first;
            for (int turn = 0; turn <= Tokens.MOST && kind() == Tokens.COMMA; turn++) {
                at++;
                int made = book.addDo(Tokens.DO);
                book.setDoPart(made, Book.VALUE, takeRule());
                book.setDoPart(last, Book.NEXT, made);
                last = made;
            }
            return first;
        }

        private int takeTurns() {
            long turns = tokens.valueAt(at);
            if (turns > MOST_LOOPED) {
                fail(MISFIT);
            }
            at++;
            return (int) turns;
        }

        // Rules and procs may be told behind the proc that names them: the syntax noted them all.
        private int takeRule() {
            long name = tokens.valueAt(at);
            int found = NONE;
            for (int i = 0; i < syntax.ruleCount() && found == NONE; i++) {
                if (syntax.ruleName(i) == name) {
                    found = i;
                }
            }
            if (found == NONE) {
                fail(UNKNOWN);
            }
            at++;
            return found;
        }

        private int takeProc() {
            long name = tokens.valueAt(at);
            int found = NONE;
            for (int i = 0; i < syntax.procCount() && found == NONE; i++) {
                if (syntax.procName(i) == name) {
                    found = i;
                }
            }
            if (found == NONE) {
                fail(UNKNOWN);
            }
            at++;
            return found;
        }
    }

    /** Nodes with two numbers each, and links between them. */
    private static final class Diagram {
        static final int NODES = 12;
        static final int LINKS = 40;
        static final int SIZE = 3 * NODES + 3 * LINKS;

        // Where the parts of the diagram stand among its cells, behind the types of the nodes.
        private static final int FIRST_NUMBERS = NODES;
        private static final int SORTS = 3 * NODES;
        private static final int FROMS = SORTS + LINKS;
        private static final int TOS = FROMS + LINKS;

        private final int[] cells = new int[SIZE];

        Diagram() {
            clear();
        }

        void clear() {
            for (int i = 0; i < SIZE; i++) {
                cells[i] = i < NODES || i >= SORTS ? NONE : 0;
            }
        }

        void saveTo(int[] store, int slot) {
            int start = slot * SIZE;
            if (slot >= 0 && start >= 0 && start <= store.length - SIZE) {
                System.arraycopy(cells, 0, store, start, SIZE);
            }
        }

        void loadFrom(int[] store, int slot) {
            int start = slot * SIZE;
            if (slot >= 0 && start >= 0 && start <= store.length - SIZE) {
                System.arraycopy(store, start, cells, 0, SIZE);
            }
        }

        int typeOf(int node) {
            return node >= 0 && node < NODES ? cells[node] : NONE;
        }

        boolean hasNode(int node) {
            return node >= 0 && node < NODES && cells[node] != NONE;
        }

        // A node that is not there has the numbers 0.
        int numberOf(int node, int k) {
            boolean isThere = node >= 0 && node < NODES && (k == 0 || k == 1);
            return isThere ? cells[FIRST_NUMBERS + k * NODES + node] : 0;
        }

        void setNumber(int node, int k, int value) {
            if (hasNode(node) && (k == 0 || k == 1)) {
                cells[FIRST_NUMBERS + k * NODES + node] = value;
            }
        }

        int sortOf(int link) {
            return link >= 0 && link < LINKS ? cells[SORTS + link] : NONE;
        }

        int fromOf(int link) {
            return link >= 0 && link < LINKS ? cells[FROMS + link] : NONE;
        }

        int toOf(int link) {
            return link >= 0 && link < LINKS ? cells[TOS + link] : NONE;
        }

        boolean hasLink(int link) {
            return link >= 0 && link < LINKS && cells[SORTS + link] != NONE;
        }

        int nodeCount() {
            int many = 0;
            for (int i = 0; i < NODES; i++) {
                if (cells[i] != NONE) {
                    many++;
                }
            }
            return many;
        }

        int linkCount() {
            int many = 0;
            for (int i = 0; i < LINKS; i++) {
                if (cells[SORTS + i] != NONE) {
                    many++;
                }
            }
            return many;
        }

        int linksFrom(int node) {
            int many = 0;
            for (int i = 0; i < LINKS; i++) {
                if (cells[SORTS + i] != NONE && cells[FROMS + i] == node) {
                    many++;
                }
            }
            return many;
        }

        int linksTo(int node) {
            int many = 0;
            for (int i = 0; i < LINKS; i++) {
                if (cells[SORTS + i] != NONE && cells[TOS + i] == node) {
                    many++;
                }
            }
            return many;
        }

        /** The link of least number between two nodes that is none of those taken, which are bits. */
        int leastLink(int sort, int from, int to, long taken) {
            for (int i = 0; i < LINKS; i++) {
                boolean fits = cells[SORTS + i] == sort && cells[FROMS + i] == from && cells[TOS + i] == to;
                if (fits && sort != NONE && (taken >> i & 1) == 0) {
                    return i;
                }
            }
            return NONE;
        }

        int addNode(int type) {
            for (int i = 0; i < NODES; i++) {
                if (cells[i] == NONE) {
                    cells[i] = type;
                    return i;
                }
            }
            return NONE;
        }

        int addLink(int sort, int from, int to) {
            for (int i = 0; i < LINKS; i++) {
                if (cells[SORTS + i] == NONE) {
                    cells[SORTS + i] = sort;
                    cells[FROMS + i] = from;
                    cells[TOS + i] = to;
                    return i;
                }
            }
            return NONE;
        }

        void dropNode(int node) {
            if (hasNode(node)) {
                setNumber(node, 0, 0);
                setNumber(node, 1, 0);
                cells[node] = NONE;
            }
        }

        void dropLink(int link) {
            if (hasLink(link)) {
                cells[SORTS + link] = NONE;
                cells[FROMS + link] = NONE;
                cells[TOS + link] = NONE;
            }
        }
    }

    /** The matches of a rule in the diagram, one behind the other, and the match at hand. */
    private static final class Matcher {
        // Far above what four nodes among twelve can need.
        static final int TURNS = 1000000;
        private static final int STACK = 64;

        private final Diagram diagram;
        private Book book;
        private Rule rule;
        private final int[] nodes = new int[Rule.NODES];
        private final int[] links = new int[Rule.LINKS];
        // The links that are given, as bits.
        private long taken;
        private boolean isNew;
        // The nodes of the diagram that are of the type of each node, and of each NOT's, as bits.
        private final int[] fitting = new int[Rule.NODES];
        private final int[] fittingNot = new int[Rule.NOTS];
        // The nodes that links of each sort lead to from each node, as bits.
        private final int[] reach = new int[Book.SORTS * Diagram.NODES];
        private final int[] stack = new int[STACK];
        private boolean isBroken;
        private final int[] handNodes = new int[Rule.NODES];
        private final int[] handLinks = new int[Rule.LINKS];
        private int handNodeCount;
        private int handLinkCount;

        Matcher(Diagram diagram, Book book) {
            this.diagram = diagram;
            this.book = book;
            this.rule = book.ruleAt(0);
        }

        /** Begins ahead of the first match of a rule in the diagram as it is. */
        void aim(Book newBook, int number) {
            book = newBook;
            rule = book.ruleAt(number);
            isNew = true;
            for (int i = 0; i < Rule.NODES; i++) {
                nodes[i] = NONE;
                fitting[i] = i < rule.nodes ? nodesOf(rule.nodeType[i]) : 0;
            }
            for (int i = 0; i < Rule.NOTS; i++) {
                fittingNot[i] = i < rule.nots ? nodesOf(rule.notType[i]) : 0;
            }
            noteReach();
        }

        private int nodesOf(int type) {
            int bits = 0;
            for (int node = 0; node < Diagram.NODES; node++) {
                if (book.isOf(diagram.typeOf(node), type)) {
                    bits |= 1 << node;
                }
            }
            return bits;
        }

        private void noteReach() {
            Arrays.fill(reach, 0);
            for (int link = 0; link < Diagram.LINKS; link++) {
                int cell = diagram.sortOf(link) * Diagram.NODES + diagram.fromOf(link);
                if (diagram.hasLink(link) && cell >= 0 && cell < reach.length) {
                    reach[cell] |= 1 << diagram.toOf(link);
                }
            }
        }

        /** Goes on to the next match; false behind the last one. */
        boolean advance() {
            boolean isFirst = isNew;
            int last = rule.nodes - 1;
            int level = isFirst ? 0 : last;
            isNew = false;
            if (last < 0) {
                return isFirst && fits();
            }
            for (int turn = 0; turn < TURNS && level >= 0 && level < Rule.NODES; turn++) {
                nodes[level] = nextNode(level);
                if (nodes[level] == NONE) {
                    level--;
                } else if (level < last) {
                    level++;
                } else if (fits()) {
                    return true;
                }
            }
            return false;
        }

        private int nextNode(int level) {
            for (int node = cellAt(nodes, level) + 1; node < Diagram.NODES; node++) {
                if (suits(level, node)) {
                    return node;
                }
            }
            return NONE;
        }

        /** Whether a node may stand at a level with those of the levels ahead: what is cheap to see. */
        private boolean suits(int level, int node) {
            if ((cellAt(fitting, level) >> node & 1) == 0) {
                return false;
            }
            for (int i = 0; i < level && i < Rule.NODES; i++) {
                if (nodes[i] == node && !mayShare(i, level)) {
                    return false;
                }
            }
            for (int link = 0; link < rule.links && link < Rule.LINKS; link++) {
                int from = rule.linkFrom[link];
                int to = rule.linkTo[link];
                if (Math.max(from, to) == level) {
                    int start = from == level ? node : cellAt(nodes, from);
                    int end = to == level ? node : cellAt(nodes, to);
                    int ends = cellAt(reach, rule.linkSort[link] * Diagram.NODES + start);
                    if ((ends >> end & 1) == 0) {
                        return false;
                    }
                }
            }
            return true;
        }

        private boolean mayShare(int one, int two) {
            return rule.merges && (rule.deletedNodes & (1 << one | 1 << two)) == 0;
        }

        /** Whether the nodes that are given are a match of the rule the search is for, as all is now. */
        boolean isStill(Book newBook, int number, int[] store, int start) {
            aim(newBook, number);
            for (int i = 0; i < rule.nodes && i < Rule.NODES; i++) {
                int node = cellAt(store, start + i);
                if (node < 0 || !suits(i, node)) {
                    return false;
                }
                nodes[i] = node;
            }
            return fits();
        }

        private boolean fits() {
            if (!givesLinks() || !testsHold() || leavesLoose()) {
                return false;
            }
            for (int not = 0; not < rule.nots; not++) {
                if (isForbidden(not)) {
                    return false;
                }
            }
            return true;
        }

        private boolean givesLinks() {
            taken = 0;
            for (int i = 0; i < rule.links && i < Rule.LINKS; i++) {
                int from = cellAt(nodes, rule.linkFrom[i]);
                int to = cellAt(nodes, rule.linkTo[i]);
                links[i] = diagram.leastLink(rule.linkSort[i], from, to, taken);
                if (links[i] == NONE) {
                    return false;
                }
                taken |= 1L << links[i];
            }
            return true;
        }

        private boolean testsHold() {
            for (int test = 0; test < rule.tests && test < Rule.TESTS; test++) {
                int left = valueOf(Rule.sumOfTest(test, 0));
                boolean isLeftBroken = isBroken;
                int right = valueOf(Rule.sumOfTest(test, 1));
                if (isLeftBroken || isBroken || !holds(rule.testKind[test], left, right)) {
                    return false;
                }
            }
            return true;
        }

        private static boolean holds(int kind, int left, int right) {
            switch (kind) {
                case Tokens.EQUAL:
                    return left == right;
                case Tokens.UNEQUAL:
                    return left != right;
                case Tokens.LESS:
                    return left < right;
                default:
                    return left <= right;
            }
        }

        /** Whether a link that is not given would lose a node that it leads from or to. */
        private boolean leavesLoose() {
            int deleted = 0;
            for (int i = 0; i < rule.nodes && i < Rule.NODES; i++) {
                if ((rule.deletedNodes >> i & 1) == 1) {
                    deleted |= 1 << nodes[i];
                }
            }
            for (int link = 0; link < Diagram.LINKS && deleted != 0; link++) {
                if (diagram.hasLink(link) && (taken >> link & 1) == 0) {
                    int ends = 1 << diagram.fromOf(link) | 1 << diagram.toOf(link);
                    if ((ends & deleted) != 0) {
                        return true;
                    }
                }
            }
            return false;
        }

        /** Whether what a NOT tells is there. One without a node of its own is looked for once. */
        private boolean isForbidden(int not) {
            boolean hasNode = cellAt(rule.notType, not) != NONE;
            int tries = hasNode ? Diagram.NODES : 1;
            for (int own = 0; own < tries; own++) {
                if ((!hasNode || (cellAt(fittingNot, not) >> own & 1) == 1) && givesNotLinks(not, own)) {
                    return true;
                }
            }
            return false;
        }

        private boolean givesNotLinks(int not, int own) {
            long used = taken;
            for (int i = 0; i < cellAt(rule.notLinks, not); i++) {
                int link = Rule.linksOfNot(not) + i;
                int from = cellAt(rule.linkFrom, link);
                int to = cellAt(rule.linkTo, link);
                int start = from == Rule.OWN ? own : cellAt(nodes, from);
                int end = to == Rule.OWN ? own : cellAt(nodes, to);
                int sort = cellAt(rule.linkSort, link);
                if ((cellAt(reach, sort * Diagram.NODES + start) >> end & 1) == 0) {
                    return false;
                }
                int found = diagram.leastLink(sort, start, end, used);
                if (found == NONE) {
                    return false;
                }
                used |= 1L << found;
            }
            return true;
        }

        /** What a sum of the rule is worth at the nodes that are given; isBroken tells if it breaks. */
        int valueOf(int sum) {
            isBroken = false;
            int top = 0;
            int end = cellAt(rule.sumEnd, sum);
            for (int i = Math.max(0, cellAt(rule.sumStart, sum)); i < end && !isBroken; i++) {
                int kind = book.codeKind(i);
                int value = book.codeValue(i);
                long result = value;
                if (kind == Book.LOOK) {
                    result = diagram.numberOf(cellAt(nodes, value >> 1), value & 1);
                } else if (kind == Book.NEGATE) {
                    top--;
                    result = -(long) cellAt(stack, top);
                } else if (kind != Book.NUMBER) {
                    top -= 2;
                    result = combine(kind, cellAt(stack, top), cellAt(stack, top + 1));
                }
                isBroken = result != (int) result;
                setCell(stack, top, (int) result);
                top++;
            }
            return isBroken ? 0 : stack[0];
        }

        private static long combine(int kind, long left, long right) {
            if (kind == Book.ADD) {
                return left + right;
            }
            return kind == Book.SUBTRACT ? left - right : left * right;
        }

        boolean isBroken() {
            return isBroken;
        }

        Rule rule() {
            return rule;
        }

        int nodeAt(int i) {
            return cellAt(nodes, i);
        }

        int linkAt(int i) {
            return cellAt(links, i);
        }

        /** The nodes that are given, as bits. */
        int nodeBits() {
            int bits = 0;
            for (int i = 0; i < rule.nodes && i < Rule.NODES; i++) {
                bits |= 1 << nodes[i];
            }
            return bits;
        }

        void takeInHand() {
            handNodeCount = rule.nodes;
            handLinkCount = rule.links;
            for (int i = 0; i < Rule.NODES; i++) {
                handNodes[i] = nodes[i];
            }
            for (int i = 0; i < Rule.LINKS; i++) {
                handLinks[i] = links[i];
            }
        }

        void emptyHand() {
            handNodeCount = 0;
            handLinkCount = 0;
        }

        int nodeInHand(int k) {
            return k < handNodeCount ? cellAt(handNodes, k) : NONE;
        }

        int linkInHand(int k) {
            return k < handLinkCount ? cellAt(handLinks, k) : NONE;
        }
    }

    /** The latest applications, as the diagrams that were there ahead of each. */
    private static final class History {
        private static final int MOST_KEPT = 100;
        // One slot more, so that an application that comes to nothing pushes none out.
        private static final int SLOTS = MOST_KEPT + 1;

        private final Diagram diagram;
        private final int[] store = new int[SLOTS * Diagram.SIZE];
        private int top;
        private int kept;
        private int standing;

        History(Diagram diagram) {
            this.diagram = diagram;
        }

        int kept() {
            return kept;
        }

        /** How many applications were done and not taken back; only differences of it tell something. */
        int standing() {
            return standing;
        }

        void forget() {
            kept = 0;
        }

        /** Notes the diagram as it is ahead of an application. */
        void open() {
            diagram.saveTo(store, top);
        }

        /** The application that was opened is not done. */
        void drop() {
            diagram.loadFrom(store, top);
        }

        /** The application that was opened is done. */
        void close() {
            top = (top + 1) % SLOTS;
            kept = Math.min(kept + 1, MOST_KEPT);
            standing++;
        }

        /** Counts off all that was done since so many stood; what pushed others out has none come back. */
        void countBackTo(int wanted) {
            int gone = standing - wanted;
            top = Math.floorMod(top - gone, SLOTS);
            kept = Math.max(0, kept - gone);
            standing = wanted;
        }

        boolean takeBackLatest(int n) {
            if (n < 1 || n > kept) {
                return false;
            }
            countBackTo(standing - n);
            diagram.loadFrom(store, top);
            return true;
        }
    }

    /** Applies rules: at their first match, or at all. */
    private static final class Rewriter {
        static final int NOTHING = 0;
        static final int DONE = 1;
        static final int BROKEN = 2;

        private final Diagram diagram;
        private final Matcher matcher;
        private final History history;
        // What each set tells, and the nodes that were made new.
        private final int[] values = new int[Rule.DOES];
        private final int[] made = new int[Rule.DOES];
        // The nodes of the matches that were taken for an all.
        private final int[] takenNodes = new int[Diagram.NODES * Rule.NODES];
        private int takenCount;

        Rewriter(Diagram diagram, Matcher matcher, History history) {
            this.diagram = diagram;
            this.matcher = matcher;
            this.history = history;
        }

        int applyFirst(Book book, int rule) {
            matcher.aim(book, rule);
            if (!matcher.advance()) {
                return NOTHING;
            }
            history.open();
            if (!carriesOut()) {
                return BROKEN;
            }
            history.close();
            matcher.takeInHand();
            return DONE;
        }

        /** Takes each match of a rule that shares no node with one taken ahead of it. */
        void takeMatches(Book book, int rule) {
            takenCount = 0;
            int usedBits = 0;
            matcher.aim(book, rule);
            for (int turn = 0; turn < Matcher.TURNS && takenCount < Diagram.NODES && matcher.advance(); turn++) {
                int bits = matcher.nodeBits();
                if ((bits & usedBits) == 0) {
                    usedBits |= bits;
                    for (int i = 0; i < Rule.NODES; i++) {
                        setCell(takenNodes, takenCount * Rule.NODES + i, matcher.nodeAt(i));
                    }
                    takenCount++;
                }
            }
        }

        /** Applies a rule at the matches that were taken, where they are matches still. */
        int applyTaken(Book book, int rule) {
            history.open();
            boolean isDone = false;
            for (int i = 0; i < takenCount; i++) {
                if (matcher.isStill(book, rule, takenNodes, i * Rule.NODES)) {
                    if (!carriesOut()) {
                        history.drop();
                        return BROKEN;
                    }
                    isDone = true;
                }
            }
            if (!isDone) {
                return NOTHING;
            }
            history.close();
            return DONE;
        }

        /** Does what the rule does at the matcher's match; false, and nothing is done, if it breaks. */
        private boolean carriesOut() {
            Rule rule = matcher.rule();
            if (!worksOut(rule) || !hasRoom(rule)) {
                return false;
            }
            for (int i = 0; i < rule.does && i < Rule.DOES; i++) {
                carryOut(rule, i);
            }
            return true;
        }

        private boolean worksOut(Rule rule) {
            for (int i = 0; i < rule.does && i < Rule.DOES; i++) {
                if (rule.doesKind[i] == Tokens.SET) {
                    values[i] = matcher.valueOf(Rule.sumOfDoes(i));
                    if (matcher.isBroken()) {
                        return false;
                    }
                }
            }
            return true;
        }

        private boolean hasRoom(Rule rule) {
            int nodes = diagram.nodeCount();
            int links = diagram.linkCount();
            for (int i = 0; i < rule.does && i < Rule.DOES; i++) {
                switch (rule.doesKind[i]) {
                    case Tokens.DEL:
                        nodes--;
                        break;
                    case Rule.DEL_LINK:
                        links--;
                        break;
                    case Tokens.NEW:
                        nodes++;
                        break;
                    case Tokens.JOIN:
                        links++;
                        break;
                    default:
                        break;
                }
                if (nodes > Diagram.NODES || links > Diagram.LINKS) {
                    return false;
                }
            }
            return true;
        }

        private void carryOut(Rule rule, int i) {
            int what = cellAt(rule.doesWhat, i);
            int how = cellAt(rule.doesHow, i);
            switch (cellAt(rule.doesKind, i)) {
                case Tokens.DEL:
                    diagram.dropNode(matcher.nodeAt(what));
                    break;
                case Rule.DEL_LINK:
                    diagram.dropLink(matcher.linkAt(what));
                    break;
                case Tokens.NEW:
                    setCell(made, what - Rule.OWN, diagram.addNode(how));
                    break;
                case Tokens.JOIN:
                    diagram.addLink(how, nodeFor(what), nodeFor(cellAt(rule.doesTo, i)));
                    break;
                default:
                    diagram.setNumber(nodeFor(what), how, cellAt(values, i));
                    break;
            }
        }

        private int nodeFor(int number) {
            return number < Rule.OWN ? matcher.nodeAt(number) : cellAt(made, number - Rule.OWN);
        }
    }

    /** The run of a proc, a step at a time. */
    private static final class Runner {
        private static final int NO_RUN = 0;
        private static final int SUCCEEDED = 1;
        private static final int FAILED = 2;
        private static final int BROKEN = 3;
        private static final int GOES_ON = 4;

        private static final int MOST_PROCS = 20;
        private static final int MOST_FRAMES = MOST_PROCS * (1 + Syntax.MOST_OPEN);

        // What a frame is of; a try's is of its first row, and then of the one that follows from that.
        private static final int OF_PROC = 0, OF_WHILE = 1, OF_LOOP = 2, OF_TRY = 3, OF_CHOSEN = 4;

        private final Diagram diagram;
        private final Rewriter rewriter;
        private final History history;
        private Book book;
        private int state;
        private int steps;
        // The do that comes next in the row of the innermost frame; NONE behind the last.
        private int next = NONE;
        private int depth;
        private int openProcs;
        private final int[] frameKind = new int[MOST_FRAMES];
        // The do that opened the frame; NONE for the run's own proc.
        private final int[] frameDo = new int[MOST_FRAMES];
        private final int[] frameTurns = new int[MOST_FRAMES];
        // What stood, and the diagram, as they were ahead of what may be taken back.
        private final int[] frameStanding = new int[MOST_FRAMES];
        private final int[] store = new int[MOST_FRAMES * Diagram.SIZE];

        Runner(Diagram diagram, Rewriter rewriter, History history, Book book) {
            this.diagram = diagram;
            this.rewriter = rewriter;
            this.history = history;
            this.book = book;
        }

        boolean goesOn() {
            return state == GOES_ON;
        }

        int state() {
            return state;
        }

        int steps() {
            return steps;
        }

        int openCount() {
            return goesOn() ? depth : 0;
        }

        void clear() {
            state = NO_RUN;
            steps = 0;
            depth = 0;
        }

        void start(Book newBook, int proc) {
            if (goesOn()) {
                takeBackTo(0);
            }
            book = newBook;
            state = GOES_ON;
            steps = 0;
            depth = 0;
            openProcs = 0;
            open(OF_PROC, NONE, book.procStart(proc));
        }

        /** Does the next step: it begins a turn, or a do. */
        void step() {
            steps++;
            if (next == NONE) {
                startTurn();
                return;
            }
            int value = book.doPart(next, Book.VALUE);
            int row = book.doPart(next, Book.ROW);
            switch (book.doPart(next, Book.KIND)) {
                case Tokens.DO:
                    goBehind(rewriter.applyFirst(book, value));
                    break;
                case Tokens.ALL:
                    rewriter.takeMatches(book, value);
                    goBehind(rewriter.applyTaken(book, value));
                    break;
                case Tokens.ANY:
                    int outcome = Rewriter.NOTHING;
                    for (int turn = 0; turn <= Tokens.MOST && row != NONE && outcome == Rewriter.NOTHING; turn++) {
                        outcome = rewriter.applyFirst(book, book.doPart(row, Book.VALUE));
                        row = book.doPart(row, Book.NEXT);
                    }
                    goBehind(outcome);
                    break;
                case Tokens.CALL:
                    callProc(value);
                    break;
                case Tokens.WHILE:
                    open(OF_WHILE, next, NONE);
                    break;
                case Tokens.LOOP:
                    open(OF_LOOP, next, NONE);
                    break;
                case Tokens.TRY:
                    open(OF_TRY, next, row);
                    break;
                default:
                    failRow();
                    break;
            }
        }

        /** Closes frames as long as that needs no step. */
        void settle() {
            for (int turn = 0; turn <= 2 * MOST_FRAMES && goesOn() && next == NONE && !wantsTurn(); turn++) {
                closeRow();
            }
        }

        private void open(int kind, int opener, int row) {
            if (depth < 0 || depth >= MOST_FRAMES) {
                state = BROKEN;
                return;
            }
            frameKind[depth] = kind;
            frameDo[depth] = opener;
            frameTurns[depth] = 0;
            depth++;
            if (kind == OF_PROC) {
                openProcs++;
            }
            if (depth == 1 || kind == OF_TRY) {
                note();
            }
            next = row;
        }

        // What is done from now on may be taken back by what the innermost frame is of.
        private void note() {
            setCell(frameStanding, depth - 1, history.standing());
            diagram.saveTo(store, depth - 1);
        }

        private void takeBackTo(int frame) {
            history.countBackTo(cellAt(frameStanding, frame));
            diagram.loadFrom(store, frame);
        }

        private int innermostKind() {
            return cellAt(frameKind, depth - 1);
        }

        private int innermostDo() {
            return cellAt(frameDo, depth - 1);
        }

        /** Whether the row of the innermost frame is to be run once more. */
        private boolean wantsTurn() {
            int turns = cellAt(frameTurns, depth - 1);
            if (innermostKind() == OF_WHILE) {
                return turns == 0 || history.standing() > cellAt(frameStanding, depth - 1);
            }
            return innermostKind() == OF_LOOP && turns < book.doPart(innermostDo(), Book.VALUE);
        }

        private void startTurn() {
            setCell(frameTurns, depth - 1, cellAt(frameTurns, depth - 1) + 1);
            if (innermostKind() == OF_WHILE) {
                note();
            }
            next = book.doPart(innermostDo(), Book.ROW);
        }

        private void goBehind(int outcome) {
            if (outcome == Rewriter.BROKEN) {
                state = BROKEN;
            } else if (outcome == Rewriter.NOTHING) {
                failRow();
            } else {
                next = book.doPart(next, Book.NEXT);
            }
        }

        private void callProc(int proc) {
            if (openProcs >= MOST_PROCS) {
                state = BROKEN;
            } else {
                open(OF_PROC, next, book.procStart(proc));
            }
        }

        /** Leaves the innermost frame, for the do behind the one that opened it. */
        private void leave() {
            int opener = innermostDo();
            if (innermostKind() == OF_PROC) {
                openProcs--;
            }
            depth--;
            next = book.doPart(opener, Book.NEXT);
        }

        private void choose(int rowPart) {
            setCell(frameKind, depth - 1, OF_CHOSEN);
            next = book.doPart(innermostDo(), rowPart);
        }

        /** The row of the innermost frame is through, and no turn of it is wanted. */
        private void closeRow() {
            if (innermostKind() == OF_TRY) {
                choose(Book.THEN_ROW);
            } else if (depth == 1) {
                state = SUCCEEDED;
            } else {
                leave();
            }
        }

        /** The row of the innermost frame fails, and each row around it up to what stands that. */
        private void failRow() {
            for (int turn = 0; turn < MOST_FRAMES && goesOn(); turn++) {
                if (innermostKind() == OF_TRY) {
                    takeBackTo(depth - 1);
                    choose(Book.ELSE_ROW);
                    return;
                }
                if (innermostKind() == OF_WHILE) {
                    takeBackTo(depth - 1);
                    leave();
                    return;
                }
                if (depth <= 1) {
                    takeBackTo(0);
                    state = FAILED;
                } else {
                    leave();
                }
            }
        }
    }

    /** Whether two diagrams are the same but for the numbers of their nodes and links. */
    private static final class Twins {
        static final int MOST_NODES = 7;
        private static final int PAIRS = MOST_NODES * MOST_NODES;
        // How many links of a sort there are takes six bits: so many sorts go into one number.
        private static final int COUNT_BITS = 6;
        private static final int SORTS_IN_ONE = 6;

        private final Diagram one;
        private final Diagram two;
        // The nodes that are there, and for each two of them how many links of each sort lead on.
        private final int[] oneNodes = new int[MOST_NODES];
        private final int[] twoNodes = new int[MOST_NODES];
        private final long[] oneLinks = new long[2 * PAIRS];
        private final long[] twoLinks = new long[2 * PAIRS];
        private int many;
        private final int[] mates = new int[MOST_NODES];
        private int usedMates;

        Twins(Diagram one, Diagram two) {
            this.one = one;
            this.two = two;
        }

        boolean areAlike() {
            many = one.nodeCount();
            if (many != two.nodeCount() || many > MOST_NODES || one.linkCount() != two.linkCount()) {
                return false;
            }
            listNodes(one, oneNodes);
            listNodes(two, twoNodes);
            countLinks(one, oneNodes, oneLinks);
            countLinks(two, twoNodes, twoLinks);
            usedMates = 0;
            return findsMates(0);
        }

        private static void listNodes(Diagram diagram, int[] list) {
            int listed = 0;
            for (int node = 0; node < Diagram.NODES; node++) {
                if (diagram.hasNode(node)) {
                    setCell(list, listed, node);
                    listed++;
                }
            }
        }

        private void countLinks(Diagram diagram, int[] list, long[] counts) {
            Arrays.fill(counts, 0L);
            for (int link = 0; link < Diagram.LINKS; link++) {
                int sort = diagram.sortOf(link);
                int pair = pairOf(placeIn(list, diagram.fromOf(link)), placeIn(list, diagram.toOf(link)));
                int cell = sort < SORTS_IN_ONE ? pair : pair + PAIRS;
                if (sort != NONE && cell >= 0 && cell < counts.length) {
                    counts[cell] += 1L << COUNT_BITS * (sort % SORTS_IN_ONE);
                }
            }
        }

        private int placeIn(int[] list, int node) {
            for (int i = 0; i < many && i < list.length; i++) {
                if (list[i] == node) {
                    return i;
                }
            }
            return 0;
        }

        private static int pairOf(int from, int to) {
            return from * MOST_NODES + to;
        }

        /** Whether each node of the one from a place on can be given one of the other that is free. */
        private boolean findsMates(int place) {
            if (place >= many || place >= MOST_NODES) {
                return true;
            }
            for (int mate = 0; mate < many; mate++) {
                if ((usedMates >> mate & 1) == 0 && suits(place, mate)) {
                    mates[place] = mate;
                    usedMates |= 1 << mate;
                    if (findsMates(place + 1)) {
                        return true;
                    }
                    usedMates &= ~(1 << mate);
                }
            }
            return false;
        }

        private boolean suits(int place, int mate) {
            int oneNode = cellAt(oneNodes, place);
            int twoNode = cellAt(twoNodes, mate);
            if (one.typeOf(oneNode) != two.typeOf(twoNode)) {
                return false;
            }
            for (int k = 0; k < 2; k++) {
                if (one.numberOf(oneNode, k) != two.numberOf(twoNode, k)) {
                    return false;
                }
            }
            for (int i = 0; i <= place && i < MOST_NODES; i++) {
                int other = i == place ? mate : mates[i];
                if (!linksAgree(pairOf(i, place), pairOf(other, mate))
                    || !linksAgree(pairOf(place, i), pairOf(mate, other))) {
                    return false;
                }
            }
            return true;
        }

        private boolean linksAgree(int onePair, int twoPair) {
            if (onePair < 0 || onePair >= PAIRS || twoPair < 0 || twoPair >= PAIRS) {
                return false;
            }
            return oneLinks[onePair] == twoLinks[twoPair] && oneLinks[onePair + PAIRS] == twoLinks[twoPair + PAIRS];
        }
    }
}
