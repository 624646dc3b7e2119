import java.util.Arrays;

/** A forge for a small lazy language: it reads texts, lifts lambdas, finds what is needed, and runs programs. */
public final class LazyForge {
    public static final int NONE = -1;

    private static final int TEXT_MOST = 3000;
    private static final int OUT_MOST = 12000;
    private static final int PARTS_EVER_MOST = 20000;
    private static final int RUNS_EVER_MOST = 150000;
    private static final int CALLS_MOST = 800;

    private static final int CONSTRUCTORS_MOST = 30;
    private static final int FIELDS_MOST = 4;
    private static final int TOPS_MOST = 30;
    private static final int NAMES_MOST = 5;
    private static final int ALTERNATIVES_MOST = 8;
    private static final int OPEN_MOST = 30;
    private static final int PARTS_MOST = 600;
    private static final int PARAMETERS_MOST = 8;
    private static final int HEIGHT_MOST = 40;
    private static final int VARIABLES_MOST = 40;
    private static final int CELLS_MOST = 4000;
    private static final int ROW_MOST = 1000;

    // Each function that is lifted is a part of the text.
    private static final int FUNCTIONS_MOST = TOPS_MOST + PARTS_MOST;
    // A scope belongs to a function, to a let or lambda or BINDING (a part), or to an alternative (which has a leaf).
    private static final int SCOPES_MOST = 700;
    // Parts, BINDINGS and alternatives, and up to eight more nodes in the place of each function that is lifted.
    private static final int NODES_MOST = 6200;
    // No text has more words than signs; its end is one more.
    private static final int WORDS_MOST = TEXT_MOST + 1;
    private static final int KIDS_MOST = 10;
    private static final int PASSES_MOST = 100000;
    private static final int ROUNDS_MOST = 1000000;
    // 4800 calls and SUSPENSIONS work out at most 600 parts each: far below this.
    private static final int STEPS_MOST = 100000000;

    // Words; those of one sign have the sign itself as their kind.
    private static final int STOPPED = 0;
    private static final int END = 1;
    private static final int BAD = 2;
    private static final int NAME = 3;
    private static final int CAPITAL = 4;
    private static final int DIGITS = 5;
    private static final int DATA = 6;
    private static final int LET = 7;
    private static final int IN = 8;
    private static final int CASE = 9;
    private static final int OF = 10;
    private static final int FAIL = 11;
    private static final int ARROW = 128;
    private static final int EQUAL = 129;
    private static final int AT_MOST = 130;
    private static final String SIGNS = "(){}=;,\\._+-*/%<|";
    private static final int NAME_SIGNS_MOST = 8;
    private static final int DIGITS_MOST = 10;
    private static final long NUMBER_MOST = 2147483647L;

    // A name is held as its signs, one byte each.
    private static final long NAME_DATA = 0x64617461L;
    private static final long NAME_LET = 0x6c6574L;
    private static final long NAME_IN = 0x696eL;
    private static final long NAME_CASE = 0x63617365L;
    private static final long NAME_OF = 0x6f66L;
    private static final long NAME_FAIL = 0x6661696cL;
    private static final long NAME_MAIN = 0x6d61696eL;
    private static final long NAME_FALSE = 0x46616c7365L;
    private static final long NAME_TRUE = 0x54727565L;

    // The kinds of a text's fault.
    private static final int WRONG_WORD = 1;
    private static final int THERE_ALREADY = 2;
    private static final int NO_CONSTRUCTOR = 3;
    private static final int TOO_MANY = 4;
    private static final int NOTHING_THERE = 5;
    private static final int TOO_MANY_LIFTED = 6;
    private static final int NO_MAIN = 7;
    private static final int TOO_HIGH = 8;

    // The kinds of a tree's nodes.
    private static final int N_NUMBER = 0;
    private static final int N_CONSTRUCTOR = 1;
    private static final int N_FUNCTION = 2;
    private static final int N_VARIABLE = 3;
    private static final int N_FAIL = 4;
    private static final int N_OPERATION = 5;
    private static final int N_CASE = 6;
    private static final int N_LET = 7;
    private static final int N_APPLY = 8;
    private static final int N_BUILD = 9;
    private static final int N_BINDING = 10;
    private static final int N_ALT_CONSTRUCTOR = 11;
    private static final int N_ALT_NUMBER = 12;
    private static final int N_ALT_ANY = 13;
    private static final int N_LIFTED = 14;

    private final Signs text;
    private final Program program;
    private final Reader reader;
    private final Lifter lifter;
    private final Demand demand;
    private final Scribe scribe;
    private final Machine machine;
    private Signs out;
    private Signs draft;
    private boolean standing;
    private int faultKind;
    private int faultPlace;
    private int partsEver;
    private int callsEver;
    private int cellsEver;

    public LazyForge() {
        text = new Signs(TEXT_MOST);
        out = new Signs(OUT_MOST);
        draft = new Signs(OUT_MOST);
        program = new Program();
        Tree tree = new Tree();
        Scopes scopes = new Scopes();
        reader = new Reader(text, tree, program, scopes);
        lifter = new Lifter(tree, program, scopes);
        demand = new Demand(tree, program);
        scribe = new Scribe(tree, program);
        machine = new Machine(tree, program);
        faultPlace = NONE;
    }

    // ---- texts

    public int put(int signs) throws IllegalArgumentException, UnsupportedOperationException {
        int more = 0;
        for (int i = 0; i < 4; i++) {
            int sign = (signs >>> (8 * i)) & 255;
            if (sign != 0 && sign != 10 && (sign < 32 || sign > 126)) {
                throw new IllegalArgumentException();
            }
            more += sign == 0 ? 0 : 1;
        }
        if (text.count + more > TEXT_MOST) {
            throw new UnsupportedOperationException();
        }
        for (int i = 0; i < 4; i++) {
            int sign = (signs >>> (8 * i)) & 255;
            if (sign != 0) {
                text.add(sign);
            }
        }
        return text.count;
    }

    public void end(int n) throws IllegalArgumentException {
        if (n < 0 || n > text.count) {
            throw new IllegalArgumentException();
        }
        text.count = n;
    }

    public int take() {
        if (out.count > TEXT_MOST) {
            return NONE;
        }
        text.copy(out);
        return text.count;
    }

    public int program() throws UnsupportedOperationException {
        if (partsEver >= PARTS_EVER_MOST) {
            throw new UnsupportedOperationException();
        }
        machine.forget();
        reader.readText();
        partsEver += reader.parts;
        text.clear();
        faultKind = reader.faultKind;
        faultPlace = reader.faultPlace;
        if (faultKind == 0) {
            lifter.lift();
            faultKind = lifter.faultKind;
            faultPlace = lifter.faultPlace;
        }
        standing = faultKind == 0;
        if (!standing) {
            return NONE;
        }
        demand.solve();
        return program.functions;
    }

    public int fault(int what) throws IllegalArgumentException {
        if (what < 0 || what > 1) {
            throw new IllegalArgumentException();
        }
        return what == 0 ? faultKind : faultPlace;
    }

    public int write() throws IllegalStateException {
        if (!standing) {
            throw new IllegalStateException();
        }
        draft.clear();
        scribe.writeProgram(draft);
        if (draft.lost) {
            return NONE;
        }
        Signs old = out;
        out = draft;
        draft = old;
        return out.count;
    }

    public int letter(int k) throws IndexOutOfBoundsException {
        if (k < 0) {
            throw new IndexOutOfBoundsException();
        }
        return out.signAt(k);
    }

    // ---- what there is

    public int function(int f, int what)
            throws IllegalStateException, IndexOutOfBoundsException, IllegalArgumentException {
        if (!standing) {
            throw new IllegalStateException();
        }
        if (f < 0 || f >= program.functions) {
            throw new IndexOutOfBoundsException();
        }
        if (what < 0 || what > 5) {
            throw new IllegalArgumentException();
        }
        return program.tell(f, what);
    }

    public boolean needs(int f, int i) throws IllegalStateException, IndexOutOfBoundsException {
        if (!standing) {
            throw new IllegalStateException();
        }
        if (f < 0 || f >= program.functions || i < 0 || i >= program.parameters[f]) {
            throw new IndexOutOfBoundsException();
        }
        return program.needsParameter(f, i);
    }

    public int bit(int f, int bits) throws IllegalStateException, IndexOutOfBoundsException, IllegalArgumentException {
        if (!standing) {
            throw new IllegalStateException();
        }
        if (f < 0 || f >= program.functions) {
            throw new IndexOutOfBoundsException();
        }
        if (bits < 0 || bits >= 1 << program.parameters[f]) {
            throw new IllegalArgumentException();
        }
        return demand.look(f, bits);
    }

    // ---- runs

    public int run(boolean eager, int calls)
            throws IllegalStateException, IllegalArgumentException, UnsupportedOperationException {
        if (!standing) {
            throw new IllegalStateException();
        }
        if (calls < 0 || calls > CALLS_MOST) {
            throw new IllegalArgumentException();
        }
        if (callsEver >= RUNS_EVER_MOST || cellsEver >= RUNS_EVER_MOST) {
            throw new UnsupportedOperationException();
        }
        machine.start(eager, calls);
        callsEver += machine.counts[Cells.CALLS];
        cellsEver += machine.counts[Cells.CELLS];
        return machine.counts[Cells.ENDED];
    }

    public int result(int what) throws IllegalArgumentException {
        if (what < 0 || what >= Cells.COUNTS) {
            throw new IllegalArgumentException();
        }
        return machine.counts[what];
    }

    public int number(int i) throws IndexOutOfBoundsException {
        if (i < 0 || i >= machine.counts[Cells.NUMBERS]) {
            throw new IndexOutOfBoundsException();
        }
        return machine.row[i];
    }

    public int called(int f) throws IllegalStateException, IndexOutOfBoundsException {
        if (!standing) {
            throw new IllegalStateException();
        }
        if (f < 0 || f >= program.functions) {
            throw new IndexOutOfBoundsException();
        }
        return machine.timesCalled[f];
    }

    public int about(int what) throws IllegalArgumentException {
        switch (what) {
            case 0: return standing ? program.functions : 0;
            case 1: return standing ? program.constructors : 0;
            case 2: return standing ? reader.parts : 0;
            case 3: return text.count;
            case 4: return out.count;
            case 5: return callsEver;
            case 6: return cellsEver;
            default: throw new IllegalArgumentException();
        }
    }

    /** A row of signs with a greatest length; what comes behind that is lost. */
    private static final class Signs {
        final byte[] row;
        int count;
        boolean lost;

        Signs(int most) {
            row = new byte[most];
        }

        void clear() {
            count = 0;
            lost = false;
        }

        void add(int sign) {
            if (count >= row.length) {
                lost = true;
                return;
            }
            row[count] = (byte) sign;
            count++;
        }

        void addText(String words) {
            for (int i = 0; i < words.length(); i++) {
                add(words.charAt(i));
            }
        }

        void addNumber(int number) {
            int unit = 1;
            for (int i = 0; i < 9 && number / unit >= 10; i++) {
                unit *= 10;
            }
            for (; unit > 0; unit /= 10) {
                add('0' + number / unit % 10);
            }
        }

        void addName(long name) {
            for (int shift = 56; shift >= 0; shift -= 8) {
                int sign = (int) (name >>> shift) & 255;
                if (sign != 0) {
                    add(sign);
                }
            }
        }

        int signAt(int k) {
            return k >= 0 && k < count ? row[k] : NONE;
        }

        void copy(Signs other) {
            clear();
            for (int i = 0; i < other.count; i++) {
                add(other.row[i]);
            }
        }
    }

    /** The words of the text, one at a time. */
    private static final class Words {
        final Signs text;
        int at;
        int kind;
        int place;
        int number;
        long name;

        Words(Signs text) {
            this.text = text;
        }

        void begin() {
            at = 0;
            kind = BAD;
            advance();
        }

        /** Behind this no word fits anywhere, so that all that still reads comes to its end. */
        void stop() {
            kind = STOPPED;
        }

        void advance() {
            if (kind == STOPPED) {
                return;
            }
            passBlanks();
            place = at;
            int sign = text.signAt(at);
            if (sign == NONE) {
                kind = END;
            } else if (isSmall(sign) || isGreat(sign)) {
                readName(sign);
            } else if (isDigit(sign)) {
                readNumber();
            } else {
                readSign(sign);
            }
        }

        private void passBlanks() {
            boolean remark = false;
            for (; at < text.count; at++) {
                int sign = text.signAt(at);
                if (sign == 10) {
                    remark = false;
                } else if (sign == '#') {
                    remark = true;
                } else if (sign != ' ' && !remark) {
                    return;
                }
            }
        }

        private void readName(int first) {
            name = 0;
            int length = 0;
            int sign = first;
            for (; at < text.count && (length == 0 || isSmall(sign) || isDigit(sign)); length++) {
                name = name << 8 | sign;
                at++;
                sign = text.signAt(at);
            }
            if (length > NAME_SIGNS_MOST) {
                kind = BAD;
            } else {
                kind = isGreat(first) ? CAPITAL : kindOfName();
            }
        }

        private int kindOfName() {
            if (name == NAME_DATA) {
                return DATA;
            }
            if (name == NAME_LET) {
                return LET;
            }
            if (name == NAME_IN) {
                return IN;
            }
            if (name == NAME_CASE) {
                return CASE;
            }
            if (name == NAME_OF) {
                return OF;
            }
            return name == NAME_FAIL ? FAIL : NAME;
        }

        private void readNumber() {
            long sum = 0;
            int length = 0;
            for (; at < text.count && isDigit(text.signAt(at)); at++) {
                length++;
                if (length <= DIGITS_MOST) {
                    sum = sum * 10 + (text.signAt(at) - '0');
                }
            }
            boolean fits = length <= DIGITS_MOST && sum <= NUMBER_MOST;
            kind = fits ? DIGITS : BAD;
            number = fits ? (int) sum : 0;
        }

        private void readSign(int sign) {
            int second = text.signAt(at + 1);
            if (sign == '-' && second == '>') {
                kind = ARROW;
            } else if (sign == '=' && second == '=') {
                kind = EQUAL;
            } else if (sign == '<' && second == '=') {
                kind = AT_MOST;
            } else {
                kind = SIGNS.indexOf((char) sign) >= 0 ? sign : BAD;
            }
            at += kind >= ARROW ? 2 : 1;
        }

        private static boolean isSmall(int sign) {
            return sign >= 'a' && sign <= 'z';
        }

        private static boolean isGreat(int sign) {
            return sign >= 'A' && sign <= 'Z';
        }

        private static boolean isDigit(int sign) {
            return sign >= '0' && sign <= '9';
        }
    }

    /**
     * Nodes of all Es, held in rows. A node is made behind its kids, which are chained by next: of a let its E and
     * then its BINDINGS, of a case its E and then its alternatives, of an APPLICATION what is applied and then the
     * arguments.
     */
    private static final class Tree {
        final int[] kind = new int[NODES_MOST];
        final int[] value = new int[NODES_MOST];
        final int[] slot = new int[NODES_MOST];
        final int[] kid = new int[NODES_MOST];
        final int[] next = new int[NODES_MOST];
        final int[] height = new int[NODES_MOST];
        final int[] parts = new int[NODES_MOST];
        final long[] used = new long[NODES_MOST];
        int count;

        void clear() {
            count = 0;
        }

        int add(int nodeKind, int nodeValue, int nodeSlot, int firstKid) {
            if (count >= NODES_MOST) {
                return 0;
            }
            kind[count] = nodeKind;
            value[count] = nodeValue;
            slot[count] = nodeSlot;
            kid[count] = firstKid;
            next[count] = NONE;
            count++;
            return count - 1;
        }

        int addLeaf(int nodeKind, int nodeValue) {
            return add(nodeKind, nodeValue, 0, NONE);
        }

        void change(int node, int nodeKind, int nodeValue) {
            kind[node] = nodeKind;
            value[node] = nodeValue;
        }

        void measureLeaf(int node) {
            height[node] = 1;
            parts[node] = 1;
            int v = value[node];
            used[node] = kind[node] == N_VARIABLE && v < VARIABLES_MOST ? 1L << v : 0;
        }

        /** Kids must have been measured; BINDINGS and alternatives are no parts themselves. */
        void measure(int node, int fields) {
            int highest = 0;
            int sum = 0;
            long all = 0;
            long bound = 0;
            for (int i = 0, k = kid[node]; i < KIDS_MOST && k != NONE; i++, k = next[k]) {
                highest = Math.max(highest, height[k]);
                sum += parts[k];
                all |= used[k];
                bound |= kind[k] == N_BINDING ? span(value[k], 1) : 0;
            }
            if (kind[node] == N_ALT_CONSTRUCTOR) {
                bound = span(slot[node], fields);
            }
            int own = isPart(kind[node]) ? 1 : 0;
            height[node] = highest + own;
            parts[node] = sum + own;
            used[node] = all & ~bound;
        }

        private static long span(int first, int length) {
            return first < VARIABLES_MOST ? ((1L << length) - 1) << first : 0;
        }

        private static boolean isPart(int nodeKind) {
            return nodeKind < N_BINDING || nodeKind > N_ALT_ANY;
        }
    }

    /** The CONSTRUCTORS and functions of a program. */
    private static final class Program {
        final long[] constructorName = new long[CONSTRUCTORS_MOST];
        final int[] fields = new int[CONSTRUCTORS_MOST];
        int constructors;
        final long[] topName = new long[TOPS_MOST];
        int tops;
        int functions;
        int main;
        final int[] parameters = new int[FUNCTIONS_MOST];
        final int[] frees = new int[FUNCTIONS_MOST];
        final int[] free = new int[FUNCTIONS_MOST * PARAMETERS_MOST];
        final int[] variables = new int[FUNCTIONS_MOST];
        final int[] root = new int[FUNCTIONS_MOST];
        final int[] scope = new int[FUNCTIONS_MOST];
        final int[] parts = new int[FUNCTIONS_MOST];
        final int[] height = new int[FUNCTIONS_MOST];
        final int[] lets = new int[FUNCTIONS_MOST];
        final int[] needed = new int[FUNCTIONS_MOST];

        void clear() {
            constructors = 0;
            addConstructor(NAME_FALSE, 0);
            addConstructor(NAME_TRUE, 0);
            tops = 0;
            functions = 0;
            main = NONE;
        }

        void addConstructor(long name, int fieldCount) {
            if (constructors < CONSTRUCTORS_MOST) {
                constructorName[constructors] = name;
                fields[constructors] = fieldCount;
                constructors++;
            }
        }

        int constructorOf(long name) {
            for (int i = 0; i < constructors; i++) {
                if (constructorName[i] == name) {
                    return i;
                }
            }
            return NONE;
        }

        void addTop(long name, int itsScope) {
            if (tops < TOPS_MOST) {
                topName[tops] = name;
                tops++;
                addFunction(itsScope);
            }
        }

        int topOf(long name) {
            for (int i = 0; i < tops; i++) {
                if (topName[i] == name) {
                    return i;
                }
            }
            return NONE;
        }

        int addFunction(int itsScope) {
            if (functions >= FUNCTIONS_MOST) {
                return 0;
            }
            scope[functions] = itsScope;
            frees[functions] = 0;
            lets[functions] = 0;
            functions++;
            return functions - 1;
        }

        boolean needsParameter(int f, int i) {
            return (needed[f] >>> i & 1) != 0;
        }

        int tell(int f, int what) {
            switch (what) {
                case 0: return parameters[f];
                case 1: return frees[f];
                case 2: return variables[f];
                case 3: return parts[f];
                case 4: return lets[f];
                default: return height[f];
            }
        }
    }

    /**
     * Where names are: of functions, lambdas and BINDINGS with parameters (these own themselves), lets and PATTERNS,
     * in the order in which they begin; and where NAMES are used. A variable is its scope times five and its place
     * there.
     */
    private static final class Scopes {
        final long[] name = new long[SCOPES_MOST * NAMES_MOST];
        final int[] names = new int[SCOPES_MOST];
        final int[] parent = new int[SCOPES_MOST];
        final int[] owner = new int[SCOPES_MOST];
        final int[] root = new int[SCOPES_MOST];
        final int[] place = new int[SCOPES_MOST];
        final int[] base = new int[SCOPES_MOST];
        final int[] number = new int[SCOPES_MOST];
        int count;
        final long[] useName = new long[PARTS_MOST];
        final int[] useScope = new int[PARTS_MOST];
        final int[] usePlace = new int[PARTS_MOST];
        final int[] useNode = new int[PARTS_MOST];
        final int[] useTarget = new int[PARTS_MOST];
        int uses;

        void clear() {
            count = 0;
            uses = 0;
        }

        int add(int itsParent, int itsPlace, boolean ownsItself) {
            if (count >= SCOPES_MOST) {
                return 0;
            }
            names[count] = 0;
            parent[count] = itsParent;
            place[count] = itsPlace;
            owner[count] = ownsItself || itsParent == NONE ? count : owner[itsParent];
            count++;
            return count - 1;
        }

        boolean owns(int scope) {
            return owner[scope] == scope;
        }

        int addName(int scope, long newName) {
            int variable = scope * NAMES_MOST + names[scope];
            name[variable] = newName;
            names[scope]++;
            return variable;
        }

        boolean has(int scope, long wanted) {
            return variableIn(scope, wanted) != NONE;
        }

        private int variableIn(int scope, long wanted) {
            for (int i = 0; i < names[scope]; i++) {
                if (name[scope * NAMES_MOST + i] == wanted) {
                    return scope * NAMES_MOST + i;
                }
            }
            return NONE;
        }

        /** The innermost variable of that name around there. */
        int find(int from, long wanted) {
            int scope = from;
            for (int i = 0; i < SCOPES_MOST && scope != NONE; i++) {
                int variable = variableIn(scope, wanted);
                if (variable != NONE) {
                    return variable;
                }
                scope = parent[scope];
            }
            return NONE;
        }

        void addUse(long itsName, int scope, int itsPlace, int node) {
            if (uses < PARTS_MOST) {
                useName[uses] = itsName;
                useScope[uses] = scope;
                usePlace[uses] = itsPlace;
                useNode[uses] = node;
                uses++;
            }
        }
    }

    /** Reads the text up to its first fault of kinds 1 to 4: behind that there is no word, and all reading ends. */
    private static final class Reader {
        final Words words;
        final Tree tree;
        final Program program;
        final Scopes scopes;
        int faultKind;
        int faultPlace;
        int parts;
        int open;
        int here;

        Reader(Signs text, Tree tree, Program program, Scopes scopes) {
            this.words = new Words(text);
            this.tree = tree;
            this.program = program;
            this.scopes = scopes;
        }

        void readText() {
            tree.clear();
            program.clear();
            scopes.clear();
            faultKind = 0;
            faultPlace = NONE;
            parts = 0;
            open = 0;
            here = NONE;
            words.begin();
            for (int i = 0; i < WORDS_MOST && words.kind == DATA; i++) {
                readData();
            }
            readFunction();
            for (int i = 0; i < TOPS_MOST && words.kind != END && words.kind != STOPPED; i++) {
                readFunction();
            }
        }

        private void refuse(int kind) {
            if (faultKind == 0) {
                faultKind = kind;
                faultPlace = words.place;
                words.stop();
            }
        }

        private void expect(int kind) {
            if (words.kind == kind) {
                words.advance();
            } else {
                refuse(WRONG_WORD);
            }
        }

        private void countPart() {
            if (parts >= PARTS_MOST) {
                refuse(TOO_MANY);
            } else if (words.kind != STOPPED) {
                parts++;
            }
        }

        /** Of let, lambda and case; how many stand open is all that keeps the reader's depth low. */
        private boolean opens() {
            if (open >= OPEN_MOST) {
                refuse(WRONG_WORD);
                return false;
            }
            open++;
            return true;
        }

        private void readData() {
            words.advance();
            readConstructor();
            for (int i = 0; i < WORDS_MOST && words.kind == '|'; i++) {
                words.advance();
                readConstructor();
            }
            expect(';');
        }

        private void readConstructor() {
            long name = words.name;
            if (words.kind != CAPITAL) {
                refuse(WRONG_WORD);
            } else if (program.constructorOf(name) != NONE) {
                refuse(THERE_ALREADY);
            } else if (program.constructors >= CONSTRUCTORS_MOST) {
                refuse(TOO_MANY);
            }
            words.advance();
            if (words.kind != DIGITS || words.number > FIELDS_MOST) {
                refuse(WRONG_WORD);
                return;
            }
            program.addConstructor(name, words.number);
            words.advance();
        }

        private void readFunction() {
            if (words.kind != NAME) {
                refuse(WRONG_WORD);
            } else if (program.topOf(words.name) != NONE) {
                refuse(THERE_ALREADY);
            } else if (program.tops >= TOPS_MOST) {
                refuse(TOO_MANY);
            }
            if (words.kind == STOPPED) {
                return;
            }
            int scope = scopes.add(NONE, words.place, true);
            program.addTop(words.name, scope);
            words.advance();
            readParameters(scope);
            expect('=');
            scopes.root[scope] = readWithin(scope);
            expect(';');
        }

        private void readParameters(int scope) {
            for (int i = 0; i <= NAMES_MOST && words.kind == NAME; i++) {
                declare(scope);
            }
        }

        private int declare(int scope) {
            int variable = 0;
            if (words.kind != NAME) {
                refuse(WRONG_WORD);
            } else if (scopes.has(scope, words.name)) {
                refuse(THERE_ALREADY);
            } else if (scopes.names[scope] >= NAMES_MOST) {
                refuse(TOO_MANY);
            } else {
                variable = scopes.addName(scope, words.name);
                words.advance();
            }
            return variable;
        }

        private int readWithin(int scope) {
            int outside = here;
            here = scope;
            int node = readExpression();
            here = outside;
            return node;
        }

        private int readExpression() {
            switch (words.kind) {
                case LET: return readLet();
                case '\\': return readLambda();
                case CASE: return readCase();
                default: return readComparison();
            }
        }

        private int readLet() {
            if (!opens()) {
                return 0;
            }
            countPart();
            int outside = here;
            int scope = scopes.add(here, words.place, false);
            here = scope;
            words.advance();
            int first = readBinding();
            int last = first;
            for (int i = 0; i <= NAMES_MOST && words.kind == ','; i++) {
                words.advance();
                int binding = readBinding();
                tree.next[last] = binding;
                last = binding;
            }
            expect(IN);
            int body = readExpression();
            tree.next[body] = first;
            here = outside;
            open--;
            return tree.add(N_LET, 0, scope, body);
        }

        private int readBinding() {
            int place = words.place;
            int variable = declare(here);
            int node;
            if (words.kind == NAME) {
                countPart();
                node = readLifted(place);
            } else {
                expect('=');
                node = readExpression();
            }
            return tree.add(N_BINDING, variable, 0, node);
        }

        /** Of a BINDING its PARAMETERS and E, of a lambda likewise, as what stands in its place. */
        private int readLifted(int place) {
            boolean lambda = words.kind == '\\';
            int scope = scopes.add(here, place, true);
            if (lambda) {
                words.advance();
                declare(scope);
            }
            readParameters(scope);
            expect(lambda ? '.' : '=');
            scopes.root[scope] = readWithin(scope);
            return tree.addLeaf(N_LIFTED, scope);
        }

        private int readLambda() {
            if (!opens()) {
                return 0;
            }
            countPart();
            int node = readLifted(words.place);
            open--;
            return node;
        }

        private int readCase() {
            if (!opens()) {
                return 0;
            }
            countPart();
            words.advance();
            int asked = readExpression();
            expect(OF);
            expect('{');
            int last = readAlternative(0);
            tree.next[asked] = last;
            for (int i = 1; i <= ALTERNATIVES_MOST && words.kind == ';'; i++) {
                words.advance();
                int alternative = readAlternative(i);
                tree.next[last] = alternative;
                last = alternative;
            }
            expect('}');
            open--;
            return tree.add(N_CASE, 0, 0, asked);
        }

        private int readAlternative(int before) {
            int kind = words.kind;
            int constructor = kind == CAPITAL ? program.constructorOf(words.name) : NONE;
            if (kind != CAPITAL && kind != DIGITS && kind != '_') {
                refuse(WRONG_WORD);
            } else if (kind == CAPITAL && constructor == NONE) {
                refuse(NO_CONSTRUCTOR);
            } else if (before >= ALTERNATIVES_MOST) {
                refuse(TOO_MANY);
            }
            int number = words.number;
            int scope = here;
            words.advance();
            if (constructor != NONE) {
                scope = scopes.add(here, words.place, false);
                for (int i = 0; i < program.fields[constructor]; i++) {
                    declare(scope);
                }
            }
            expect(ARROW);
            int node = readWithin(scope);
            if (kind == CAPITAL) {
                return tree.add(N_ALT_CONSTRUCTOR, constructor, scope, node);
            }
            return tree.add(kind == DIGITS ? N_ALT_NUMBER : N_ALT_ANY, number, 0, node);
        }

        private int readComparison() {
            int left = readSum();
            if (words.kind == EQUAL || words.kind == '<' || words.kind == AT_MOST) {
                int sign = readSign();
                left = join(sign, left, readSum());
            }
            return left;
        }

        private int readSum() {
            int left = readProduct();
            for (int i = 0; i < WORDS_MOST && (words.kind == '+' || words.kind == '-'); i++) {
                int sign = readSign();
                left = join(sign, left, readProduct());
            }
            return left;
        }

        private int readProduct() {
            int left = readApplication();
            for (int i = 0; i < WORDS_MOST && (words.kind == '*' || words.kind == '/' || words.kind == '%'); i++) {
                int sign = readSign();
                left = join(sign, left, readApplication());
            }
            return left;
        }

        private int readSign() {
            int sign = words.kind;
            countPart();
            words.advance();
            return sign;
        }

        private int join(int sign, int left, int right) {
            tree.next[left] = right;
            return tree.add(N_OPERATION, sign, 0, left);
        }

        private int readApplication() {
            if (words.kind == CAPITAL) {
                int constructor = program.constructorOf(words.name);
                if (constructor != NONE && program.fields[constructor] > 0) {
                    return readBuild(constructor);
                }
            }
            if (!atomStands()) {
                return 0;
            }
            int head = readAtom();
            int last = head;
            int more = 0;
            for (; more <= NAMES_MOST && isAtom(words.kind) && atomStands(); more++) {
                if (more == NAMES_MOST) {
                    refuse(TOO_MANY);
                } else if (more == 0) {
                    countPart();
                }
                int atom = readAtom();
                tree.next[last] = atom;
                last = atom;
            }
            return more == 0 ? head : tree.add(N_APPLY, 0, more, head);
        }

        private int readBuild(int constructor) {
            words.advance();
            int first = NONE;
            int last = NONE;
            for (int i = 0; i < program.fields[constructor] && atomStands(); i++) {
                if (i == 0) {
                    countPart();
                }
                int atom = readAtom();
                if (last == NONE) {
                    first = atom;
                } else {
                    tree.next[last] = atom;
                }
                last = atom;
            }
            return tree.add(N_BUILD, constructor, 0, first);
        }

        private static boolean isAtom(int kind) {
            return kind == NAME || kind == CAPITAL || kind == DIGITS || kind == FAIL || kind == '(';
        }

        /** Refuses what can't begin an ATOM here, ahead of all that is refused as too many. */
        private boolean atomStands() {
            if (words.kind == CAPITAL) {
                int constructor = program.constructorOf(words.name);
                if (constructor == NONE) {
                    refuse(NO_CONSTRUCTOR);
                } else if (program.fields[constructor] > 0) {
                    refuse(WRONG_WORD);
                }
            } else if (!isAtom(words.kind) || words.kind == '(' && open >= OPEN_MOST) {
                refuse(WRONG_WORD);
            }
            return words.kind != STOPPED;
        }

        /** Comes behind atomStands, which has seen to it that one more ( may be open. */
        private int readAtom() {
            int kind = words.kind;
            if (kind == STOPPED) {
                return 0;
            }
            if (kind == '(') {
                open++;
                words.advance();
                int inner = readExpression();
                expect(')');
                open--;
                return inner;
            }
            countPart();
            if (words.kind == STOPPED) {
                return 0;
            }
            int node;
            if (kind == NAME) {
                node = tree.addLeaf(N_VARIABLE, 0);
                scopes.addUse(words.name, here, words.place, node);
            } else if (kind == DIGITS) {
                node = tree.addLeaf(N_NUMBER, words.number);
            } else if (kind == CAPITAL) {
                node = tree.addLeaf(N_CONSTRUCTOR, program.constructorOf(words.name));
            } else {
                node = tree.addLeaf(N_FAIL, 0);
            }
            words.advance();
            return node;
        }
    }

    /** Makes functions of lambdas and BINDINGS with parameters, and finds the faults of kinds 5 to 8. */
    private static final class Lifter {
        final Tree tree;
        final Program program;
        final Scopes scopes;
        int faultKind;
        int faultPlace;

        Lifter(Tree tree, Program program, Scopes scopes) {
            this.tree = tree;
            this.program = program;
            this.scopes = scopes;
        }

        void lift() {
            faultKind = 0;
            faultPlace = NONE;
            numberFunctions();
            resolveUses();
            if (faultKind == 0) {
                findFree();
                refuseManyParameters();
            }
            if (faultKind == 0) {
                findMain();
            }
            if (faultKind == 0) {
                numberVariables();
                plantUses();
                plantNodes();
                keepMeasures();
            }
        }

        private void refuse(int kind, int place) {
            if (faultKind == 0) {
                faultKind = kind;
                faultPlace = place;
            }
        }

        private void numberFunctions() {
            for (int f = 0; f < program.tops; f++) {
                scopes.number[program.scope[f]] = f;
            }
            for (int s = 0; s < scopes.count; s++) {
                if (scopes.owns(s) && scopes.parent[s] != NONE) {
                    scopes.number[s] = program.addFunction(s);
                }
            }
            for (int f = 0; f < program.functions; f++) {
                program.root[f] = scopes.root[program.scope[f]];
            }
        }

        /** A target is a variable, or, below NONE, a function. */
        private void resolveUses() {
            for (int u = 0; u < scopes.uses; u++) {
                int target = scopes.find(scopes.useScope[u], scopes.useName[u]);
                if (target == NONE) {
                    int f = program.topOf(scopes.useName[u]);
                    if (f == NONE) {
                        refuse(NOTHING_THERE, scopes.usePlace[u]);
                    }
                    target = NONE - 1 - f;
                }
                scopes.useTarget[u] = target;
            }
        }

        private void findFree() {
            for (int u = 0; u < scopes.uses; u++) {
                int variable = scopes.useTarget[u];
                if (variable >= 0) {
                    passThrough(variable, scopes.owner[scopes.useScope[u]]);
                }
            }
        }

        /** A variable is free in each function from where it is used out to the one that owns it. */
        private void passThrough(int variable, int innermost) {
            int owner = scopes.owner[variable / NAMES_MOST];
            int scope = innermost;
            for (int i = 0; i < SCOPES_MOST && scope != owner && scopes.parent[scope] != NONE; i++) {
                addFree(scopes.number[scope], variable);
                scope = scopes.owner[scopes.parent[scope]];
            }
        }

        private void addFree(int f, int variable) {
            if (freeIndex(f, variable) != NONE) {
                return;
            }
            if (program.frees[f] < PARAMETERS_MOST) {
                program.free[f * PARAMETERS_MOST + program.frees[f]] = variable;
            }
            program.frees[f]++;
        }

        private int freeIndex(int f, int variable) {
            for (int i = 0; i < program.frees[f] && i < PARAMETERS_MOST; i++) {
                if (program.free[f * PARAMETERS_MOST + i] == variable) {
                    return i;
                }
            }
            return NONE;
        }

        private void refuseManyParameters() {
            for (int f = 0; f < program.functions; f++) {
                int scope = program.scope[f];
                program.parameters[f] = program.frees[f] + scopes.names[scope];
                if (program.parameters[f] > PARAMETERS_MOST) {
                    refuse(TOO_MANY_LIFTED, scopes.place[scope]);
                }
            }
        }

        private void findMain() {
            program.main = program.topOf(NAME_MAIN);
            if (program.main == NONE || program.parameters[program.main] > 0) {
                refuse(NO_MAIN, 0);
            }
        }

        private void numberVariables() {
            for (int f = 0; f < program.functions; f++) {
                scopes.base[program.scope[f]] = program.frees[f];
                program.variables[f] = program.parameters[f];
            }
            for (int s = 0; s < scopes.count; s++) {
                if (!scopes.owns(s)) {
                    int f = scopes.number[scopes.owner[s]];
                    scopes.base[s] = program.variables[f];
                    program.variables[f] += scopes.names[s];
                }
            }
        }

        private int numberIn(int f, int variable) {
            int scope = variable / NAMES_MOST;
            if (scopes.owner[scope] == program.scope[f]) {
                return scopes.base[scope] + variable % NAMES_MOST;
            }
            return Math.max(0, freeIndex(f, variable));
        }

        private void plantUses() {
            for (int u = 0; u < scopes.uses; u++) {
                int target = scopes.useTarget[u];
                int node = scopes.useNode[u];
                if (target < 0) {
                    tree.change(node, N_FUNCTION, NONE - 1 - target);
                } else {
                    int f = scopes.number[scopes.owner[scopes.useScope[u]]];
                    tree.change(node, N_VARIABLE, numberIn(f, target));
                }
            }
        }

        private void plantNodes() {
            int last = tree.count;
            for (int node = 0; node < last; node++) {
                plantNode(node);
                int kind = tree.kind[node];
                if (tree.kid[node] == NONE) {
                    tree.measureLeaf(node);
                } else {
                    tree.measure(node, kind == N_ALT_CONSTRUCTOR ? program.fields[tree.value[node]] : 0);
                }
            }
        }

        private void plantNode(int node) {
            switch (tree.kind[node]) {
                case N_LET:
                    tree.slot[node] = scopes.number[scopes.owner[tree.slot[node]]];
                    break;
                case N_BINDING:
                    int variable = tree.value[node];
                    tree.value[node] = scopes.base[variable / NAMES_MOST] + variable % NAMES_MOST;
                    break;
                case N_ALT_CONSTRUCTOR:
                    tree.slot[node] = scopes.base[tree.slot[node]];
                    break;
                case N_LIFTED:
                    plantLifted(node, tree.value[node]);
                    break;
                default:
                    break;
            }
        }

        private void plantLifted(int node, int scope) {
            int f = scopes.number[scope];
            if (program.frees[f] == 0) {
                tree.change(node, N_FUNCTION, f);
                return;
            }
            int around = scopes.number[scopes.owner[scopes.parent[scope]]];
            int last = plantLeaf(N_FUNCTION, f);
            tree.change(node, N_APPLY, 0);
            tree.slot[node] = program.frees[f];
            tree.kid[node] = last;
            for (int i = 0; i < program.frees[f] && i < PARAMETERS_MOST; i++) {
                int leaf = plantLeaf(N_VARIABLE, numberIn(around, program.free[f * PARAMETERS_MOST + i]));
                tree.next[last] = leaf;
                last = leaf;
            }
        }

        private int plantLeaf(int kind, int value) {
            int leaf = tree.addLeaf(kind, value);
            tree.measureLeaf(leaf);
            return leaf;
        }

        private void keepMeasures() {
            for (int f = 0; f < program.functions; f++) {
                program.parts[f] = tree.parts[program.root[f]];
                program.height[f] = tree.height[program.root[f]];
                if (program.height[f] > HEIGHT_MOST || program.variables[f] > VARIABLES_MOST) {
                    refuse(TOO_HIGH, scopes.place[program.scope[f]]);
                }
            }
        }
    }

    /**
     * What functions and lets need. All the bits that a function may get are looked at together: 64 rows of them are
     * the lanes of one word, and a function of eight parameters has four words.
     */
    private static final class Demand {
        private static final int WORDS = 4;
        private static final int LANES = 64;
        private static final long[] LANE_BITS = {
            0xAAAAAAAAAAAAAAAAL, 0xCCCCCCCCCCCCCCCCL, 0xF0F0F0F0F0F0F0F0L,
            0xFF00FF00FF00FF00L, 0xFFFF0000FFFF0000L, 0xFFFFFFFF00000000L
        };

        final Tree tree;
        final Program program;
        final long[] table = new long[FUNCTIONS_MOST * WORDS];
        final long[] bits = new long[VARIABLES_MOST];
        final long[] given = new long[(HEIGHT_MOST + 1) * PARAMETERS_MOST];
        int givens;
        int lanes;
        boolean grown;

        Demand(Tree tree, Program program) {
            this.tree = tree;
            this.program = program;
        }

        int look(int f, int row) {
            return (int) (table[f * WORDS + (row >>> 6 & 3)] >>> (row & 63)) & 1;
        }

        void solve() {
            Arrays.fill(table, 0, program.functions * WORDS, 0L);
            boolean changed = true;
            for (int i = 0; i < ROUNDS_MOST && changed; i++) {
                changed = false;
                // Those that are called mostly come behind those that call them.
                for (int f = program.functions - 1; f >= 0; f--) {
                    changed |= improve(f);
                }
            }
            for (int f = 0; f < program.functions; f++) {
                program.needed[f] = neededOf(f);
            }
            for (int node = 0; node < tree.count; node++) {
                if (tree.kind[node] == N_LET) {
                    markLet(node);
                }
            }
        }

        private int neededOf(int f) {
            int ones = (1 << program.parameters[f]) - 1;
            int needed = 0;
            for (int i = 0; i < program.parameters[f]; i++) {
                needed |= look(f, ones & ~(1 << i)) == 0 ? 1 << i : 0;
            }
            return needed;
        }

        private boolean improve(int f) {
            int parameters = program.parameters[f];
            lanes = parameters >= 6 ? LANES : 1 << parameters;
            int words = parameters <= 6 ? 1 : 1 << (parameters - 6);
            boolean changed = false;
            for (int w = 0; w < words; w++) {
                for (int i = 0; i < parameters; i++) {
                    bits[i] = i < 6 ? LANE_BITS[i] : -(long) (w >>> (i - 6) & 1);
                }
                long found = settle(program.root[f], parameters, program.variables[f]);
                changed |= found != table[f * WORDS + w];
                table[f * WORDS + w] = found;
            }
            return changed;
        }

        /** The E's bits, with the least ones of its lets' names, which are among the variables from first on. */
        private long settle(int node, int first, int variables) {
            for (int v = first; v < variables; v++) {
                bits[v] = 0;
            }
            long found = 0;
            grown = true;
            for (int i = 0; i < PASSES_MOST && grown; i++) {
                grown = false;
                found = wordOf(node);
            }
            return lanes == LANES ? found : found & (1L << lanes) - 1;
        }

        private long wordOf(int node) {
            int first = tree.kid[node];
            switch (tree.kind[node]) {
                case N_VARIABLE: return bits[tree.value[node]];
                case N_FUNCTION: return alone(tree.value[node]);
                case N_FAIL: return 0;
                case N_OPERATION: return wordOf(first) & wordOf(tree.next[first]);
                case N_CASE: return wordOf(first) & wordOfAlternatives(tree.next[first]);
                case N_LET: return wordOfLet(first);
                case N_APPLY: return wordOfApplication(node);
                default: return -1L;
            }
        }

        private long alone(int f) {
            return program.parameters[f] > 0 ? -1L : -(table[f * WORDS] & 1);
        }

        private long wordOfAlternatives(int first) {
            long any = 0;
            for (int i = 0, a = first; i < KIDS_MOST && a != NONE; i++, a = tree.next[a]) {
                if (tree.kind[a] == N_ALT_CONSTRUCTOR) {
                    for (int k = 0; k < program.fields[tree.value[a]]; k++) {
                        bits[tree.slot[a] + k] = -1L;
                    }
                }
                any |= wordOf(tree.kid[a]);
            }
            return any;
        }

        private long wordOfLet(int body) {
            for (int i = 0, b = tree.next[body]; i < KIDS_MOST && b != NONE; i++, b = tree.next[b]) {
                int v = tree.value[b];
                long found = wordOf(tree.kid[b]) | bits[v];
                grown |= found != bits[v];
                bits[v] = found;
            }
            return wordOf(body);
        }

        private long wordOfApplication(int node) {
            int head = tree.kid[node];
            if (tree.kind[head] != N_FUNCTION) {
                return wordOf(head);
            }
            int f = tree.value[head];
            int parameters = program.parameters[f];
            if (parameters == 0 || tree.slot[node] < parameters) {
                return alone(f);
            }
            int from = givens;
            int argument = tree.next[head];
            for (int i = 0; i < parameters && argument != NONE && givens < given.length; i++) {
                long found = wordOf(argument);
                given[givens] = found;
                givens++;
                argument = tree.next[argument];
            }
            long word = compose(f, from);
            givens = from;
            return word;
        }

        private long compose(int f, int from) {
            long word = 0;
            for (int lane = 0; lane < lanes; lane++) {
                int row = 0;
                for (int i = from; i < givens; i++) {
                    row |= (int) (given[i] >>> lane & 1) << (i - from);
                }
                word |= (long) look(f, row) << lane;
            }
            return word;
        }

        private void markLet(int node) {
            int body = tree.kid[node];
            int binding = tree.next[body];
            int v = tree.value[binding];
            int f = tree.slot[node];
            tree.value[node] = 0;
            if (tree.next[binding] != NONE || (tree.used[tree.kid[binding]] >>> v & 1) != 0) {
                return;
            }
            // Names of lets around this one begin ahead of it, so all that are its own or within it are from v on.
            lanes = 1;
            Arrays.fill(bits, 0, v, -1L);
            if (settle(body, v, program.variables[f]) == 0) {
                tree.value[node] = 1;
                program.lets[f]++;
            }
        }
    }

    /** Writes a lifted program. */
    private static final class Scribe {
        final Tree tree;
        final Program program;
        Signs sheet;

        Scribe(Tree tree, Program program) {
            this.tree = tree;
            this.program = program;
        }

        void writeProgram(Signs onto) {
            sheet = onto;
            writeConstructors();
            for (int f = 0; f < program.functions; f++) {
                writeFunction(f);
                for (int i = 0; i < program.parameters[f]; i++) {
                    sheet.add(' ');
                    writeVariable(i);
                }
                sheet.addText(" = ");
                writePart(program.root[f]);
                sheet.addText(";\n");
            }
        }

        private void writeConstructors() {
            for (int c = 2; c < program.constructors; c++) {
                sheet.addText(c == 2 ? "data " : " | ");
                sheet.addName(program.constructorName[c]);
                sheet.add(' ');
                sheet.addNumber(program.fields[c]);
            }
            if (program.constructors > 2) {
                sheet.addText(";\n");
            }
        }

        private void writeFunction(int f) {
            if (f == program.main) {
                sheet.addText("main");
            } else {
                sheet.add('f');
                sheet.addNumber(f);
            }
        }

        private void writeVariable(int v) {
            sheet.add('v');
            sheet.addNumber(v);
        }

        private void writePart(int node) {
            int value = tree.value[node];
            switch (tree.kind[node]) {
                case N_NUMBER:
                    sheet.addNumber(value);
                    break;
                case N_CONSTRUCTOR:
                    sheet.addName(program.constructorName[value]);
                    break;
                case N_FUNCTION:
                    writeFunction(value);
                    break;
                case N_VARIABLE:
                    writeVariable(value);
                    break;
                case N_FAIL:
                    sheet.addText("fail");
                    break;
                default:
                    sheet.add('(');
                    writeInner(node);
                    sheet.add(')');
                    break;
            }
        }

        private void writeInner(int node) {
            int first = tree.kid[node];
            switch (tree.kind[node]) {
                case N_OPERATION:
                    writePart(first);
                    writeSign(tree.value[node]);
                    writePart(tree.next[first]);
                    break;
                case N_CASE:
                    sheet.addText("case ");
                    writePart(first);
                    sheet.addText(" of {");
                    writeAlternatives(tree.next[first]);
                    sheet.add('}');
                    break;
                case N_LET:
                    sheet.addText("let ");
                    writeBindings(tree.next[first]);
                    sheet.addText(" in ");
                    writePart(first);
                    break;
                case N_BUILD:
                    sheet.addName(program.constructorName[tree.value[node]]);
                    sheet.add(' ');
                    writeRow(first);
                    break;
                default:
                    writeRow(first);
                    break;
            }
        }

        private void writeSign(int sign) {
            sheet.add(' ');
            if (sign == EQUAL) {
                sheet.addText("==");
            } else if (sign == AT_MOST) {
                sheet.addText("<=");
            } else {
                sheet.add(sign);
            }
            sheet.add(' ');
        }

        private void writeRow(int first) {
            for (int i = 0, k = first; i < KIDS_MOST && k != NONE; i++, k = tree.next[k]) {
                if (i > 0) {
                    sheet.add(' ');
                }
                writePart(k);
            }
        }

        private void writeBindings(int first) {
            for (int i = 0, b = first; i < KIDS_MOST && b != NONE; i++, b = tree.next[b]) {
                if (i > 0) {
                    sheet.addText(", ");
                }
                writeVariable(tree.value[b]);
                sheet.addText(" = ");
                writePart(tree.kid[b]);
            }
        }

        private void writeAlternatives(int first) {
            for (int i = 0, a = first; i < KIDS_MOST && a != NONE; i++, a = tree.next[a]) {
                if (i > 0) {
                    sheet.addText("; ");
                }
                writePattern(a);
                sheet.addText(" -> ");
                writePart(tree.kid[a]);
            }
        }

        private void writePattern(int alternative) {
            int value = tree.value[alternative];
            if (tree.kind[alternative] == N_ALT_ANY) {
                sheet.add('_');
            } else if (tree.kind[alternative] == N_ALT_NUMBER) {
                sheet.addNumber(value);
            } else {
                sheet.addName(program.constructorName[value]);
                for (int k = 0; k < program.fields[value]; k++) {
                    sheet.add(' ');
                    writeVariable(tree.slot[alternative] + k);
                }
            }
        }
    }

    /**
     * The CELLS of a run, and what was counted. A value is a tag and an int; of what is in CELLS the int is the first
     * one's address. An OBJECT's first cell has its CONSTRUCTOR; a PART OF A CALL's first two have its function and how
     * many arguments there are; a SUSPENSION's has its value, or that it is BLACK, or its function and E.
     */
    private static final class Cells {
        static final int ENDED = 0;
        static final int REASON = 1;
        static final int CALLS = 2;
        static final int CELLS = 3;
        static final int SUSPENSIONS = 4;
        static final int PARTS = 5;
        static final int OBJECTS = 6;
        static final int UPDATES = 7;
        static final int AT_ONCE = 8;
        static final int NUMBERS = 9;
        static final int COUNTS = 10;

        static final int INT = 1;
        static final int FUNCTION = 2;
        static final int PLAIN = 3;
        static final int OBJECT = 4;
        static final int PART = 5;
        static final int SUSPENSION = 6;

        private static final long BLACK = 1L << 62;
        private static final long FRESH = 1L << 61;
        private static final int HALF = 24;
        private static final int HALF_MASK = (1 << HALF) - 1;

        final long[] row = new long[CELLS_MOST];
        final int[] counts;

        Cells(int[] counts) {
            this.counts = counts;
        }

        static long value(int tag, int payload) {
            return (long) tag << 32 | payload & 0xFFFFFFFFL;
        }

        static int tag(long value) {
            return (int) (value >>> 32);
        }

        /** The address of so many new cells, or NONE if these would be too many. */
        private int make(int size, int sort) {
            int address = counts[CELLS];
            if (size > CELLS_MOST - address) {
                return NONE;
            }
            counts[CELLS] += size;
            counts[sort]++;
            return address;
        }

        int makeObject(int constructor, int fields) {
            int address = make(1 + fields, OBJECTS);
            if (address != NONE) {
                row[address] = constructor;
            }
            return address;
        }

        int makePart(int function, int arguments) {
            int address = make(2 + arguments, PARTS);
            if (address != NONE) {
                row[address] = function;
                row[address + 1] = arguments;
            }
            return address;
        }

        int makeSuspension(int function, int node, int variables) {
            int address = make(1 + variables, SUSPENSIONS);
            if (address != NONE) {
                row[address] = FRESH | (long) function << HALF | node;
            }
            return address;
        }

        boolean isBlack(int address) {
            return row[address] == BLACK;
        }

        boolean isFresh(int address) {
            return (row[address] & FRESH) != 0;
        }

        void blacken(int address) {
            row[address] = BLACK;
        }

        void update(int address, long value) {
            row[address] = value;
            counts[UPDATES]++;
        }

        int functionOf(int address) {
            return (int) (row[address] >>> HALF) & HALF_MASK;
        }

        int nodeOf(int address) {
            return (int) row[address] & HALF_MASK;
        }
    }

    /**
     * Works programs out. What is still to be done with a value is a FRAME on the stack (its kind and two numbers),
     * with kept arguments and left sides below their frames. Each call, and each SUSPENSION being worked out, has its
     * variables in a row of its own on top of those of what waits for it.
     */
    private static final class Machine {
        private static final int LEFT = 1;
        private static final int RIGHT = 2;
        private static final int CHOOSE = 3;
        private static final int NAMED = 4;
        private static final int ARGUMENT = 5;
        private static final int APPLY = 6;
        private static final int UPDATE = 7;
        private static final int BACK = 8;
        private static final int SHOW = 9;
        private static final int FIELDS = 10;
        private static final int KIND_SHIFT = 56;
        private static final int HALF = 28;
        private static final int HALF_MASK = (1 << HALF) - 1;

        private static final int ROW_ENDED = 1;
        private static final int FAULT_ENDED = 2;
        private static final int CUT_ENDED = 3;

        final Tree tree;
        final Program program;
        final int[] counts = new int[Cells.COUNTS];
        final int[] timesCalled = new int[FUNCTIONS_MOST];
        final int[] row = new int[ROW_MOST];
        final int[] global = new int[TOPS_MOST];
        final Cells cells;
        long[] stack = new long[512];
        int top;
        long[] variables = new long[512];
        int base;
        int edge;
        int function;
        int node;
        long value;
        boolean working;
        boolean eager;
        int callsMost;

        Machine(Tree tree, Program program) {
            this.tree = tree;
            this.program = program;
            this.cells = new Cells(counts);
        }

        void forget() {
            Arrays.fill(counts, 0);
            Arrays.fill(timesCalled, 0);
        }

        void start(boolean isEager, int calls) {
            forget();
            eager = isEager;
            callsMost = calls;
            top = 0;
            base = 0;
            edge = 0;
            function = 0;
            for (int f = 0; f < program.tops; f++) {
                if (program.parameters[f] == 0) {
                    global[f] = cells.makeSuspension(f, program.root[f], 0);
                }
            }
            push(frame(SHOW, 0, 0));
            enter(Cells.value(Cells.SUSPENSION, global[program.main]));
            for (int i = 0; i < STEPS_MOST && counts[Cells.ENDED] == 0; i++) {
                if (working) {
                    work();
                } else {
                    resume();
                }
            }
        }

        private void endWith(int how, int reason) {
            if (counts[Cells.ENDED] == 0) {
                counts[Cells.ENDED] = how;
                counts[Cells.REASON] = reason;
            }
        }

        private boolean isOver() {
            return counts[Cells.ENDED] != 0;
        }

        private static long frame(int kind, int a, int b) {
            return (long) kind << KIND_SHIFT | (long) a << HALF | b;
        }

        private void push(long entry) {
            if (top >= stack.length) {
                stack = Arrays.copyOf(stack, stack.length * 2);
            }
            stack[top] = entry;
            top++;
        }

        private long pop() {
            if (top <= 0) {
                return 0;
            }
            top--;
            return stack[top];
        }

        private void give(long found) {
            value = found;
            working = false;
        }

        private void workOn(int part) {
            node = part;
            working = true;
        }

        /** Variables for one more function on top of the others; those from before come back by the frame. */
        private void openVariables(int f) {
            push(frame(BACK, base, function));
            makeRoom(f);
            base = edge;
            edge += program.variables[f];
            function = f;
        }

        private void makeRoom(int f) {
            if (edge + program.variables[f] > variables.length) {
                variables = Arrays.copyOf(variables, variables.length * 2);
            }
        }

        private void closeVariables(int oldBase, int oldFunction) {
            edge = base;
            base = oldBase;
            function = oldFunction;
        }

        private void work() {
            int part = node;
            int held = tree.value[part];
            switch (tree.kind[part]) {
                case N_NUMBER:
                case N_CONSTRUCTOR:
                case N_BUILD:
                    give(keep(part));
                    break;
                case N_FUNCTION:
                    enter(begin(part, false));
                    break;
                case N_VARIABLE:
                    enter(variables[base + held]);
                    break;
                case N_FAIL:
                    endWith(FAULT_ENDED, 5);
                    break;
                case N_OPERATION:
                    push(frame(LEFT, part, 0));
                    workOn(tree.kid[part]);
                    break;
                case N_CASE:
                    push(frame(CHOOSE, part, 0));
                    workOn(tree.kid[part]);
                    break;
                case N_LET:
                    workLet(part);
                    break;
                default:
                    workApplication(part);
                    break;
            }
        }

        private void enter(long found) {
            int address = (int) found;
            if (Cells.tag(found) != Cells.SUSPENSION) {
                give(found);
            } else if (cells.isBlack(address)) {
                endWith(FAULT_ENDED, 3);
            } else if (!cells.isFresh(address)) {
                give(cells.row[address]);
            } else {
                push(frame(UPDATE, address, 0));
                int part = cells.nodeOf(address);
                openVariables(cells.functionOf(address));
                loadVariables(address + 1, tree.used[part]);
                cells.blacken(address);
                workOn(part);
            }
        }

        private void loadVariables(int from, long used) {
            int cell = from;
            for (int v = 0; v < program.variables[function]; v++) {
                if ((used >>> v & 1) != 0) {
                    variables[base + v] = cells.row[cell];
                    cell++;
                }
            }
        }

        private void storeVariables(int from, long used) {
            int cell = from;
            for (int v = 0; v < program.variables[function]; v++) {
                if ((used >>> v & 1) != 0) {
                    cells.row[cell] = variables[base + v];
                    cell++;
                }
            }
        }

        private long keep(int part) {
            long kept = begin(part, false);
            fill(part, kept, false);
            return kept;
        }

        /** What is kept for a part; if that is made, nothing is in it yet. */
        private long begin(int part, boolean ofBinding) {
            int held = tree.value[part];
            switch (tree.kind[part]) {
                case N_NUMBER: return Cells.value(Cells.INT, held);
                case N_CONSTRUCTOR: return Cells.value(Cells.PLAIN, held);
                case N_FUNCTION:
                    if (program.parameters[held] > 0) {
                        return Cells.value(Cells.FUNCTION, held);
                    }
                    return Cells.value(Cells.SUSPENSION, global[held]);
                case N_BUILD:
                    return made(Cells.OBJECT, cells.makeObject(held, program.fields[held]));
                case N_VARIABLE:
                    if (!ofBinding) {
                        return variables[base + held];
                    }
                    break;
                case N_APPLY:
                    if (isPartOfCall(part)) {
                        return made(Cells.PART, cells.makePart(tree.value[tree.kid[part]], tree.slot[part]));
                    }
                    break;
                default:
                    break;
            }
            return made(Cells.SUSPENSION, cells.makeSuspension(function, part, Long.bitCount(tree.used[part])));
        }

        private long made(int tag, int address) {
            if (address == NONE) {
                endWith(CUT_ENDED, 2);
                return 0;
            }
            return Cells.value(tag, address);
        }

        private boolean isPartOfCall(int part) {
            int head = tree.kid[part];
            return tree.kind[head] == N_FUNCTION && tree.slot[part] < program.parameters[tree.value[head]];
        }

        private void fill(int part, long kept, boolean ofBinding) {
            if (isOver()) {
                return;
            }
            int address = (int) kept;
            int first = tree.kid[part];
            switch (tree.kind[part]) {
                case N_NUMBER:
                case N_CONSTRUCTOR:
                case N_FUNCTION:
                    break;
                case N_BUILD:
                    keepRow(first, address + 1);
                    break;
                case N_VARIABLE:
                    if (ofBinding) {
                        storeVariables(address + 1, tree.used[part]);
                    }
                    break;
                default:
                    if (tree.kind[part] == N_APPLY && isPartOfCall(part)) {
                        keepRow(tree.next[first], address + 2);
                    } else {
                        storeVariables(address + 1, tree.used[part]);
                    }
                    break;
            }
        }

        private void keepRow(int first, int from) {
            for (int i = 0, k = first; i < KIDS_MOST && k != NONE && !isOver(); i++, k = tree.next[k]) {
                cells.row[from + i] = keep(k);
            }
        }

        private void workLet(int part) {
            int body = tree.kid[part];
            int first = tree.next[body];
            if (eager && tree.value[part] != 0) {
                counts[Cells.AT_ONCE]++;
                push(frame(NAMED, part, 0));
                workOn(tree.kid[first]);
                return;
            }
            for (int i = 0, b = first; i < KIDS_MOST && b != NONE && !isOver(); i++, b = tree.next[b]) {
                variables[base + tree.value[b]] = begin(tree.kid[b], true);
            }
            for (int i = 0, b = first; i < KIDS_MOST && b != NONE && !isOver(); i++, b = tree.next[b]) {
                fill(tree.kid[b], variables[base + tree.value[b]], true);
            }
            workOn(body);
        }

        private void workApplication(int part) {
            int head = tree.kid[part];
            if (tree.kind[head] != N_FUNCTION || program.parameters[tree.value[head]] == 0) {
                for (int i = 0, k = tree.next[head]; i < KIDS_MOST && k != NONE && !isOver(); i++, k = tree.next[k]) {
                    push(keep(k));
                }
                push(frame(APPLY, tree.slot[part], 0));
                workOn(head);
            } else if (isPartOfCall(part)) {
                give(keep(part));
            } else {
                workArguments(part, 0);
            }
        }

        /** Keeps a function's arguments from number done on, or stops to work out one that is needed. */
        private void workArguments(int part, int done) {
            int head = tree.kid[part];
            int f = tree.value[head];
            int argument = tree.next[head];
            for (int i = 0; i < tree.slot[part] && argument != NONE && !isOver(); i++) {
                if (i >= done) {
                    if (eager && i < program.parameters[f] && program.needsParameter(f, i)) {
                        counts[Cells.AT_ONCE]++;
                        push(frame(ARGUMENT, part, i));
                        workOn(argument);
                        return;
                    }
                    push(keep(argument));
                }
                argument = tree.next[argument];
            }
            if (!isOver()) {
                enterCall(f, NONE, tree.slot[part]);
            }
        }

        /** Calls f with the arguments of a PART OF A CALL, if there is one, and the lowest of those on the stack. */
        private void enterCall(int f, int partAddress, int onStack) {
            if (counts[Cells.CALLS] >= callsMost) {
                endWith(CUT_ENDED, 1);
                return;
            }
            counts[Cells.CALLS]++;
            timesCalled[f]++;
            int had = partAddress == NONE ? 0 : (int) cells.row[partAddress + 1];
            int taken = program.parameters[f] - had;
            int from = top - onStack;
            int left = onStack - taken;
            int target = edge;
            makeRoom(f);
            for (int i = 0; i < had; i++) {
                variables[target + i] = cells.row[partAddress + 2 + i];
            }
            for (int i = 0; i < taken; i++) {
                variables[target + had + i] = stack[from + i];
            }
            for (int i = 0; i < left; i++) {
                stack[from + i] = stack[from + taken + i];
            }
            top = from + left;
            if (left > 0) {
                push(frame(APPLY, left, 0));
            }
            openVariables(f);
            workOn(program.root[f]);
        }

        private void resume() {
            if (top <= 0) {
                endWith(ROW_ENDED, 0);
                return;
            }
            long entry = pop();
            int a = (int) (entry >>> HALF) & HALF_MASK;
            int b = (int) entry & HALF_MASK;
            switch ((int) (entry >>> KIND_SHIFT)) {
                case LEFT:
                    push(value);
                    push(frame(RIGHT, a, 0));
                    workOn(tree.next[tree.kid[a]]);
                    break;
                case RIGHT:
                    operate(tree.value[a], pop(), value);
                    break;
                case CHOOSE:
                    choose(tree.next[tree.kid[a]]);
                    break;
                case NAMED:
                    variables[base + tree.value[tree.next[tree.kid[a]]]] = value;
                    workOn(tree.kid[a]);
                    break;
                case ARGUMENT:
                    push(value);
                    workArguments(a, b + 1);
                    break;
                case APPLY:
                    applyValue(a);
                    break;
                case UPDATE:
                    cells.update(a, value);
                    break;
                case BACK:
                    closeVariables(a, b);
                    break;
                case SHOW:
                    show();
                    break;
                default:
                    showField(a, b);
                    break;
            }
        }

        private void operate(int sign, long left, long right) {
            if (Cells.tag(left) != Cells.INT || Cells.tag(right) != Cells.INT) {
                endWith(FAULT_ENDED, 4);
                return;
            }
            int x = (int) left;
            int y = (int) right;
            switch (sign) {
                case '+': giveInt(x + y); break;
                case '-': giveInt(x - y); break;
                case '*': giveInt(x * y); break;
                case '<': giveTruth(x < y); break;
                case EQUAL: giveTruth(x == y); break;
                case AT_MOST: giveTruth(x <= y); break;
                default: divide(sign, x, y); break;
            }
        }

        private void divide(int sign, int x, int y) {
            if (y == 0) {
                endWith(FAULT_ENDED, 2);
            } else {
                giveInt(sign == '/' ? x / y : x % y);
            }
        }

        private void giveInt(int number) {
            give(Cells.value(Cells.INT, number));
        }

        private void giveTruth(boolean truth) {
            give(Cells.value(Cells.PLAIN, truth ? 1 : 0));
        }

        private void choose(int first) {
            for (int i = 0, a = first; i < KIDS_MOST && a != NONE; i++, a = tree.next[a]) {
                if (fits(a)) {
                    workOn(tree.kid[a]);
                    return;
                }
            }
            endWith(FAULT_ENDED, 1);
        }

        /** Whether the value fits; an OBJECT's fields are the PATTERN's NAMES then. */
        private boolean fits(int alternative) {
            int wanted = tree.value[alternative];
            int tag = Cells.tag(value);
            int payload = (int) value;
            if (tree.kind[alternative] == N_ALT_ANY) {
                return true;
            }
            if (tree.kind[alternative] == N_ALT_NUMBER) {
                return tag == Cells.INT && payload == wanted;
            }
            if (tag == Cells.PLAIN) {
                return payload == wanted;
            }
            if (tag != Cells.OBJECT || cells.row[payload] != wanted) {
                return false;
            }
            for (int k = 0; k < program.fields[wanted]; k++) {
                variables[base + tree.slot[alternative] + k] = cells.row[payload + 1 + k];
            }
            return true;
        }

        /** Applies the value to so many arguments on the stack. */
        private void applyValue(int arguments) {
            int tag = Cells.tag(value);
            int payload = (int) value;
            if (tag != Cells.FUNCTION && tag != Cells.PART) {
                endWith(FAULT_ENDED, 4);
                return;
            }
            int partAddress = tag == Cells.PART ? payload : NONE;
            int f = tag == Cells.PART ? (int) cells.row[payload] : payload;
            int had = tag == Cells.PART ? (int) cells.row[payload + 1] : 0;
            if (had + arguments >= program.parameters[f]) {
                enterCall(f, partAddress, arguments);
            } else {
                extendPart(f, partAddress, had, arguments);
            }
        }

        private void extendPart(int f, int partAddress, int had, int arguments) {
            int address = cells.makePart(f, had + arguments);
            long part = made(Cells.PART, address);
            if (isOver()) {
                return;
            }
            for (int i = 0; i < had; i++) {
                cells.row[address + 2 + i] = cells.row[partAddress + 2 + i];
            }
            for (int i = 0; i < arguments; i++) {
                cells.row[address + 2 + had + i] = stack[top - arguments + i];
            }
            top -= arguments;
            give(part);
        }

        private void show() {
            int payload = (int) value;
            switch (Cells.tag(value)) {
                case Cells.INT:
                    addNumbers(2, 1, payload);
                    break;
                case Cells.PLAIN:
                    addNumbers(2, 2, payload);
                    break;
                case Cells.OBJECT:
                    addNumbers(2, 2, (int) cells.row[payload]);
                    push(frame(FIELDS, payload, 0));
                    break;
                default:
                    addNumbers(1, 3, 0);
                    break;
            }
        }

        private void addNumbers(int howMany, int first, int second) {
            int at = counts[Cells.NUMBERS];
            if (at + howMany > ROW_MOST) {
                endWith(CUT_ENDED, 3);
                return;
            }
            row[at] = first;
            if (howMany > 1) {
                row[at + 1] = second;
            }
            counts[Cells.NUMBERS] = at + howMany;
        }

        private void showField(int address, int field) {
            if (field < program.fields[(int) cells.row[address]]) {
                push(frame(FIELDS, address, field + 1));
                push(frame(SHOW, 0, 0));
                enter(cells.row[address + 1 + field]);
            }
        }
    }
}
