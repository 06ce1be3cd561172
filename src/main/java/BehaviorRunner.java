/**
 * A runner of behavior trees: composites, decorators and leaves over a blackboard with scopes, observers that
 * abort what is running, ticks under a budget that are suspended and resumed, ends that are run on every way
 * out, and traces.
 */
public final class BehaviorRunner {
    public static final int NONE = -1001;
    public static final int BAD_ARGUMENT = -1002;
    public static final int FULL = -1003;
    public static final int NO_TREE = -1004;
    public static final int SUSPENDED = 5;

    private static final int SYNTAX_ERROR = -2000;

    private static final int MAX_CODE = 127;
    private static final int MAX_TEXT = 70;
    private static final int MAX_NODES = 24;
    private static final int MAX_DEPTH = 10;
    private static final int MAX_VALUE = 999;
    private static final int MAX_BUDGET = 999;
    private static final int MAX_TICKS = 50;
    private static final int KEYS = 8;
    private static final int TRACE_ENTRIES = 30;

    // A tick visits each node at most once, so this is never used up.
    private static final int NO_BUDGET = 1000000;

    private static final int GOES_DOWN = 0;
    private static final int RUNNING = 1;
    private static final int SUCCESS = 2;
    private static final int FAILURE = 3;
    private static final int ABORTED = 4;

    private static final int ACTION = 0;
    private static final int FAILING_ACTION = 1;
    private static final int CONDITION = 2;
    private static final int EFFECT = 3;
    private static final int SEQUENCE = 4;
    private static final int SELECTOR = 5;
    private static final int REACTIVE_SEQUENCE = 6;
    private static final int REACTIVE_SELECTOR = 7;
    private static final int PARALLEL = 8;
    private static final int INVERSION = 9;
    private static final int REPETITION = 10;
    private static final int RETRY = 11;
    private static final int GUARD = 12;
    private static final int TIME_LIMIT = 13;
    private static final int SCOPE = 14;

    // The letter at an index stands for the kind with this number.
    private static final String LETTERS = "ax?=sfSFp!rtgwl";
    private static final String COMPARISONS = "<=>";
    private static final String CHANGES = ":+-";

    private final Text typed = new Text();
    private final Text output = new Text();
    private final Walker walker = new Walker();
    private final Board board = walker.board;
    private final Ledger ledger = walker.ledger;
    private final Snapshot saved = new Snapshot();
    private final Snapshot aside = new Snapshot();
    private Tree tree = new Tree();
    private Tree spare = new Tree();
    private boolean hasSaved = false;

    public BehaviorRunner() {
    }

    public int append(int code, int count) {
        if (code < 0 || code > MAX_CODE || count < 1 || count > MAX_TEXT) {
            return BAD_ARGUMENT;
        }
        if (typed.length + count > MAX_TEXT) {
            return FULL;
        }
        for (int i = 0; i < count; i++) {
            typed.add((char) code);
        }
        return typed.length;
    }

    public int readTree() {
        int answer = new Parser(typed, spare).parse();
        typed.clear();
        if (answer < 0) {
            return answer;
        }
        Tree former = tree;
        tree = spare;
        spare = former;
        ledger.clear();
        hasSaved = false;
        return answer;
    }

    public int set(int key, int value) {
        if (key < 0 || key >= KEYS || value < -MAX_VALUE || value > MAX_VALUE) {
            return BAD_ARGUMENT;
        }
        int previous = board.valueIn(null, key);
        board.put(null, key, value);
        return previous;
    }

    public int value(int node, int key) {
        if (key < 0 || key >= KEYS) {
            return BAD_ARGUMENT;
        }
        if (node == -1) {
            return board.valueIn(null, key);
        }
        Node reader = tree.nodeAt(node);
        return reader == null ? NONE : board.valueIn(reader.scopeOf(key), key);
    }

    public int tick(int budget) {
        if (budget < 1 || budget > MAX_BUDGET) {
            return BAD_ARGUMENT;
        }
        Node root = tree.nodeAt(0);
        return root == null ? NO_TREE : walker.perform(root, budget);
    }

    public int run(int ticks) {
        if (ticks < 1 || ticks > MAX_TICKS) {
            return BAD_ARGUMENT;
        }
        Node root = tree.nodeAt(0);
        if (root == null) {
            return NO_TREE;
        }
        int result = RUNNING;
        for (int i = 0; i < ticks && result == RUNNING; i++) {
            result = walker.perform(root, NO_BUDGET);
        }
        return result;
    }

    public int foresee() {
        Node root = tree.nodeAt(0);
        if (root == null) {
            return NO_TREE;
        }
        aside.take(tree, board, ledger);
        int result = walker.perform(root, NO_BUDGET);
        aside.giveBack(tree, board, ledger);
        return result;
    }

    public int ticksToGo() {
        Node root = tree.nodeAt(0);
        if (root == null) {
            return NO_TREE;
        }
        aside.take(tree, board, ledger);
        int result = RUNNING;
        int ticks = 0;
        while (ticks < MAX_TICKS && result == RUNNING) {
            ticks++;
            result = walker.perform(root, NO_BUDGET);
        }
        aside.giveBack(tree, board, ledger);
        return result == RUNNING ? 0 : ticks;
    }

    public int abort() {
        Node root = tree.nodeAt(0);
        if (root == null) {
            return NO_TREE;
        }
        int before = ledger.aborts;
        walker.stopBack(root, root);
        ledger.next = null;
        return ledger.aborts - before;
    }

    public int node(int node, int what) {
        Node asked = tree.nodeAt(node);
        if (asked == null) {
            return NONE;
        }
        Life life = asked.life;
        switch (what) {
            case 0: return asked.kind;
            case 1: return asked.parent == null ? -1 : asked.parent.index;
            case 2: return asked.children;
            case 3: return life.running ? 1 : 0;
            case 4: return asked.number;
            case 5: return life.runs;
            case 6: return life.successes;
            case 7: return life.failures;
            case 8: return life.aborts;
            case 9: return life.visits;
            case 10: return asked.depth;
            case 11: return life.local;
            default: return BAD_ARGUMENT;
        }
    }

    public int child(int node, int index) {
        Node asked = tree.nodeAt(node);
        if (asked == null || index < 0 || index >= asked.children) {
            return NONE;
        }
        Node child = asked.firstChild;
        for (int i = 0; i < index && child != null; i++) {
            child = child.nextSibling;
        }
        return child == null ? NONE : child.index;
    }

    public int underWay(int index) {
        if (ledger.next == null || index < 0) {
            return NONE;
        }
        // The visits that have not ended are those of the nodes above the next one.
        for (Node above = ledger.next.parent; above != null; above = above.parent) {
            if (above.depth - 1 == index) {
                return above.index;
            }
        }
        return NONE;
    }

    public int pending() {
        return ledger.next == null ? NONE : ledger.next.index;
    }

    public int trace(int index, int what) {
        if (index < 0 || index >= ledger.entries()) {
            return NONE;
        }
        if (what != 0 && what != 1) {
            return BAD_ARGUMENT;
        }
        return what == 0 ? ledger.tracedNode(index) : ledger.tracedResult(index);
    }

    public int count(int what) {
        switch (what) {
            case 0: return tree.size;
            case 1: return ledger.ticks;
            case 2: return ledger.successes;
            case 3: return ledger.failures;
            case 4: return ledger.visits;
            case 5: return ledger.aborts;
            case 6: return ledger.ends;
            case 7: return tree.runningNodes();
            case 8: return ledger.suspensions;
            case 9: return ledger.entries();
            case 10: return typed.length;
            default: return BAD_ARGUMENT;
        }
    }

    public int write() {
        if (tree.size == 0) {
            return NO_TREE;
        }
        new Writer(tree, output).writeTree();
        return output.length;
    }

    public int written(int index) {
        int code = output.codeAt(index);
        return code < 0 ? NONE : code;
    }

    public int save() {
        if (tree.size == 0) {
            return NO_TREE;
        }
        saved.take(tree, board, ledger);
        hasSaved = true;
        return tree.size;
    }

    public int restore() {
        if (!hasSaved) {
            return NONE;
        }
        saved.giveBack(tree, board, ledger);
        return tree.size;
    }

    /** Characters, as many as a text may have. */
    private static final class Text {
        private final char[] characters = new char[MAX_TEXT];
        private int length = 0;

        void clear() {
            length = 0;
        }

        void add(char character) {
            if (length < characters.length) {
                characters[length] = character;
                length++;
            }
        }

        /** The code at an index, or -1 outside of the text. */
        int codeAt(int index) {
            return index < 0 || index >= length || index >= characters.length ? -1 : characters[index];
        }
    }

    /** A condition or an effect. */
    private static final class Clause {
        private boolean present = false;
        private int key = 0;
        private char sign = ' ';
        private int number = 0;
        // The scope that holds the key for the node of this clause; null for the global value.
        private Node scope = null;

        void clear() {
            present = false;
            scope = null;
        }
    }

    /** What changes of a node while the tree is used. */
    private static final class Life {
        private boolean running = false;
        // What the present run has counted: steps, results of the child, or visits.
        private int counted = 0;
        private Node current = null;
        // The latest result in the present run of the node above.
        private int latest = GOES_DOWN;
        private int local = 0;
        private int runs = 0;
        private int successes = 0;
        private int failures = 0;
        private int aborts = 0;
        private int visits = 0;

        void clear() {
            running = false;
            counted = 0;
            current = null;
            latest = GOES_DOWN;
            local = 0;
            runs = 0;
            successes = 0;
            failures = 0;
            aborts = 0;
            visits = 0;
        }

        void copyFrom(Life other) {
            running = other.running;
            counted = other.counted;
            current = other.current;
            latest = other.latest;
            local = other.local;
            runs = other.runs;
            successes = other.successes;
            failures = other.failures;
            aborts = other.aborts;
            visits = other.visits;
        }
    }

    /** A node of a tree, with its place in it. */
    private static final class Node {
        private final int index;
        private final Clause clause = new Clause();
        private final Clause end = new Clause();
        private final Life life = new Life();
        private int kind = ACTION;
        private int number = 0;
        private int depth = 1;
        private int children = 0;
        private Node before = null;
        private Node parent = null;
        private Node firstChild = null;
        private Node lastChild = null;
        private Node nextSibling = null;
        // The node with the greatest index in the subtree that begins here.
        private Node lastBelow = null;

        Node(int index) {
            this.index = index;
        }

        void reset(int newKind, Node above, Node former) {
            kind = newKind;
            number = 0;
            depth = above == null ? 1 : above.depth + 1;
            children = 0;
            before = former;
            parent = above;
            firstChild = null;
            lastChild = null;
            nextSibling = null;
            lastBelow = this;
            clause.clear();
            end.clear();
            life.clear();
        }

        void adopt(Node child) {
            if (lastChild == null) {
                firstChild = child;
            } else {
                lastChild.nextSibling = child;
            }
            lastChild = child;
            children++;
            for (Node above = this; above != null; above = above.parent) {
                above.lastBelow = child;
            }
        }

        boolean hasList() {
            return kind >= SEQUENCE && kind <= PARALLEL;
        }

        boolean isReactive() {
            return kind == REACTIVE_SEQUENCE || kind == REACTIVE_SELECTOR;
        }

        /** The nearest scope above with this key, or null. */
        Node scopeOf(int key) {
            for (Node above = parent; above != null; above = above.parent) {
                if (above.kind == SCOPE && above.number == key) {
                    return above;
                }
            }
            return null;
        }
    }

    /** The nodes of a tree, in the order in which they begin in its text. */
    private static final class Tree {
        private final Node[] nodes = new Node[MAX_NODES];
        private int size = 0;

        Tree() {
            for (int i = 0; i < nodes.length; i++) {
                nodes[i] = new Node(i);
            }
        }

        Node nodeAt(int index) {
            return index < 0 || index >= size || index >= nodes.length ? null : nodes[index];
        }

        /** A new node below another one, or null if there are too many. */
        Node grow(int kind, Node above) {
            if (size < 0 || size >= nodes.length) {
                return null;
            }
            Node node = nodes[size];
            node.reset(kind, above, nodeAt(size - 1));
            size++;
            if (above != null) {
                above.adopt(node);
            }
            return node;
        }

        int runningNodes() {
            int running = 0;
            for (int i = 0; i < size && i < nodes.length; i++) {
                running += nodes[i].life.running ? 1 : 0;
            }
            return running;
        }
    }

    /** The blackboard: the global values, and the way to the local ones. */
    private static final class Board {
        private final int[] globals = new int[KEYS];

        void copyFrom(Board other) {
            System.arraycopy(other.globals, 0, globals, 0, KEYS);
        }

        int valueIn(Node scope, int key) {
            if (scope != null) {
                return scope.life.local;
            }
            return key < 0 || key >= globals.length ? 0 : globals[key];
        }

        void put(Node scope, int key, int value) {
            if (scope != null) {
                scope.life.local = value;
            } else if (key >= 0 && key < globals.length) {
                globals[key] = value;
            }
        }

        void change(Clause effect) {
            int value = valueIn(effect.scope, effect.key);
            switch (effect.sign) {
                case '+': value += effect.number; break;
                case '-': value -= effect.number; break;
                default: value = effect.number; break;
            }
            put(effect.scope, effect.key, Math.max(-MAX_VALUE, Math.min(MAX_VALUE, value)));
        }

        boolean fulfils(Clause condition) {
            int value = valueIn(condition.scope, condition.key);
            switch (condition.sign) {
                case '<': return value < condition.number;
                case '>': return value > condition.number;
                default: return value == condition.number;
            }
        }
    }

    /** What is kept of all nodes together: the tick under way, the counts and the trace. */
    private static final class Ledger {
        // The node that a suspended tick visits next; null if no tick is suspended.
        private Node next = null;
        private int ticks = 0;
        private int successes = 0;
        private int failures = 0;
        private int visits = 0;
        private int aborts = 0;
        private int ends = 0;
        private int suspensions = 0;
        private int traced = 0;
        private final int[] tracedNodes = new int[TRACE_ENTRIES];
        private final int[] tracedResults = new int[TRACE_ENTRIES];

        void clear() {
            next = null;
            ticks = 0;
            successes = 0;
            failures = 0;
            visits = 0;
            aborts = 0;
            ends = 0;
            suspensions = 0;
            traced = 0;
        }

        void copyFrom(Ledger other) {
            next = other.next;
            ticks = other.ticks;
            successes = other.successes;
            failures = other.failures;
            visits = other.visits;
            aborts = other.aborts;
            ends = other.ends;
            suspensions = other.suspensions;
            traced = other.traced;
            System.arraycopy(other.tracedNodes, 0, tracedNodes, 0, TRACE_ENTRIES);
            System.arraycopy(other.tracedResults, 0, tracedResults, 0, TRACE_ENTRIES);
        }

        void endTick(int result) {
            ticks++;
            successes += result == SUCCESS ? 1 : 0;
            failures += result == FAILURE ? 1 : 0;
        }

        void enter(Node node, int result) {
            int place = Math.floorMod(traced, TRACE_ENTRIES);
            tracedNodes[place] = node.index;
            tracedResults[place] = result;
            traced++;
        }

        int entries() {
            return Math.min(traced, TRACE_ENTRIES);
        }

        int tracedNode(int index) {
            return tracedNodes[placeOf(index)];
        }

        int tracedResult(int index) {
            return tracedResults[placeOf(index)];
        }

        private int placeOf(int index) {
            return Math.floorMod(traced - 1 - index, TRACE_ENTRIES);
        }
    }

    /** A copy of all that changes while a tree is used. */
    private static final class Snapshot {
        private final Life[] lives = new Life[MAX_NODES];
        private final Board board = new Board();
        private final Ledger ledger = new Ledger();

        Snapshot() {
            for (int i = 0; i < lives.length; i++) {
                lives[i] = new Life();
            }
        }

        void take(Tree tree, Board liveBoard, Ledger liveLedger) {
            for (int i = 0; i < lives.length; i++) {
                Node node = tree.nodeAt(i);
                if (node != null) {
                    lives[i].copyFrom(node.life);
                }
            }
            board.copyFrom(liveBoard);
            ledger.copyFrom(liveLedger);
        }

        void giveBack(Tree tree, Board liveBoard, Ledger liveLedger) {
            for (int i = 0; i < lives.length; i++) {
                Node node = tree.nodeAt(i);
                if (node != null) {
                    node.life.copyFrom(lives[i]);
                }
            }
            liveBoard.copyFrom(board);
            liveLedger.copyFrom(ledger);
        }
    }

    /** Reads a text into a tree. It moves on only over what fits, so where it halts is the error offset. */
    private static final class Parser {
        private final Text text;
        private final Tree tree;
        private int offset = 0;

        Parser(Text text, Tree tree) {
            this.text = text;
            this.tree = tree;
        }

        int parse() {
            tree.size = 0;
            boolean whole = readNode(null, 1) && offset == text.length;
            return whole ? tree.size : SYNTAX_ERROR - offset;
        }

        private boolean readNode(Node above, int depth) {
            int kind = placeIn(LETTERS);
            if (kind < 0 || depth > MAX_DEPTH) {
                return false;
            }
            Node node = tree.grow(kind, above);
            if (node == null) {
                return false;
            }
            offset++;
            return readRest(node, depth);
        }

        private boolean readRest(Node node, int depth) {
            switch (node.kind) {
                case ACTION:
                case FAILING_ACTION:
                    return readNumber(node, 0, 9) && readEffects(node);
                case CONDITION:
                    return readClause(node, node.clause, COMPARISONS);
                case EFFECT:
                    return readClause(node, node.clause, CHANGES);
                case SEQUENCE:
                case SELECTOR:
                case REACTIVE_SEQUENCE:
                case REACTIVE_SELECTOR:
                    return readList(node, depth);
                case PARALLEL:
                    return readNumber(node, 0, 9) && readList(node, depth);
                case REPETITION:
                case RETRY:
                    return readNumber(node, 1, 9) && readNode(node, depth + 1);
                case GUARD:
                    return readClause(node, node.clause, COMPARISONS) && readNode(node, depth + 1);
                case TIME_LIMIT:
                    return readNumber(node, 0, 9) && readNode(node, depth + 1);
                case SCOPE:
                    return readNumber(node, 0, KEYS - 1) && readNode(node, depth + 1);
                default:
                    return readNode(node, depth + 1);
            }
        }

        private boolean readList(Node node, int depth) {
            if (!skip('(')) {
                return false;
            }
            for (int i = 0; i < MAX_NODES; i++) {
                if (!readNode(node, depth + 1)) {
                    return false;
                }
                if (!skip(',')) {
                    return skip(')');
                }
            }
            return false;
        }

        private boolean readNumber(Node node, int least, int most) {
            int digit = readDigit(least, most);
            if (digit < 0) {
                return false;
            }
            node.number = digit;
            return true;
        }

        private boolean readEffects(Node node) {
            int code = text.codeAt(offset);
            if (code >= '0' && code <= '9' && !readClause(node, node.clause, CHANGES)) {
                return false;
            }
            return !skip('~') || readClause(node, node.end, CHANGES);
        }

        private boolean readClause(Node node, Clause clause, String signs) {
            int key = readDigit(0, KEYS - 1);
            int place = key < 0 ? -1 : placeIn(signs);
            if (place < 0 || place >= signs.length()) {
                return false;
            }
            offset++;
            int first = readDigit(0, 9);
            if (first < 0) {
                return false;
            }
            int second = readDigit(0, 9);
            clause.present = true;
            clause.key = key;
            clause.sign = signs.charAt(place);
            clause.number = second < 0 ? first : 10 * first + second;
            clause.scope = node.scopeOf(key);
            return true;
        }

        /** The digit at the offset, behind which it moves, or -1 if there is none in the range. */
        private int readDigit(int least, int most) {
            int digit = text.codeAt(offset) - '0';
            if (digit < least || digit > most) {
                return -1;
            }
            offset++;
            return digit;
        }

        private boolean skip(char sign) {
            if (text.codeAt(offset) != sign) {
                return false;
            }
            offset++;
            return true;
        }

        private int placeIn(String signs) {
            int code = text.codeAt(offset);
            return code < 0 ? -1 : signs.indexOf((char) code);
        }
    }

    /** Writes a tree as a text. */
    private static final class Writer {
        private final Tree tree;
        private final Text text;

        Writer(Tree tree, Text text) {
            this.tree = tree;
            this.text = text;
        }

        void writeTree() {
            text.clear();
            for (int i = 0; i < MAX_NODES; i++) {
                Node node = tree.nodeAt(i);
                if (node != null) {
                    writeHead(node);
                    writeBehind(node);
                }
            }
        }

        private void writeHead(Node node) {
            if (node.kind >= 0 && node.kind < LETTERS.length()) {
                text.add(LETTERS.charAt(node.kind));
            }
            if (hasNumber(node)) {
                writeNumber(node.number);
            }
            if (node.clause.present) {
                writeClause(node.clause);
            }
            if (node.end.present) {
                text.add('~');
                writeClause(node.end);
            }
            if (node.hasList()) {
                text.add('(');
            }
        }

        /** What stands between a node and the next one: nothing, if that is its child. */
        private void writeBehind(Node node) {
            if (node.firstChild != null) {
                return;
            }
            for (Node ended = node; ended.parent != null; ended = ended.parent) {
                if (ended.nextSibling != null) {
                    text.add(',');
                    return;
                }
                if (ended.parent.hasList()) {
                    text.add(')');
                }
            }
        }

        private boolean hasNumber(Node node) {
            switch (node.kind) {
                case ACTION:
                case FAILING_ACTION:
                case PARALLEL:
                case REPETITION:
                case RETRY:
                case TIME_LIMIT:
                case SCOPE:
                    return true;
                default:
                    return false;
            }
        }

        private void writeClause(Clause clause) {
            writeNumber(clause.key);
            text.add(clause.sign);
            writeNumber(clause.number);
        }

        private void writeNumber(int number) {
            if (number >= 10) {
                text.add((char) ('0' + number / 10));
            }
            text.add((char) ('0' + number % 10));
        }
    }

    /** Performs ticks, visit by visit, and aborts. */
    private static final class Walker {
        private final Board board = new Board();
        private final Ledger ledger = new Ledger();

        /** Begins a tick or goes on with the suspended one, and returns its result or SUSPENDED. */
        int perform(Node root, int budget) {
            Node node = ledger.next == null ? root : ledger.next;
            for (int left = budget; left > 0; left--) {
                ledger.next = null;
                int result = beginVisit(node);
                for (Node at = node; at != null && ledger.next == null; at = at.parent) {
                    endVisit(at, result);
                    result = at.parent == null ? result : goOn(at.parent, at, result);
                }
                if (ledger.next == null) {
                    ledger.endTick(result);
                    return result;
                }
                node = ledger.next;
            }
            ledger.suspensions++;
            return SUSPENDED;
        }

        /**
         * Aborts the running nodes from the last one below a node back to a given one, if there is one.
         * Backwards, all that is below a node comes before it, and its later children before the earlier
         * ones: the order that aborts have.
         */
        void stopBack(Node node, Node first) {
            if (first == null) {
                return;
            }
            for (Node at = node.lastBelow; at != null && at.index >= first.index; at = at.before) {
                if (at.life.running) {
                    endRun(at, ABORTED);
                }
            }
        }

        private void endRun(Node node, int result) {
            Life life = node.life;
            life.running = false;
            switch (result) {
                case SUCCESS: life.successes++; break;
                case FAILURE: life.failures++; break;
                default:
                    life.aborts++;
                    ledger.aborts++;
                    break;
            }
            ledger.enter(node, result);
            if (node.end.present) {
                board.change(node.end);
                ledger.ends++;
            }
        }

        /** The result of the visit, or GOES_DOWN if a visit of a child comes first. */
        private int beginVisit(Node node) {
            Life life = node.life;
            life.visits++;
            ledger.visits++;
            if (!life.running) {
                beginRun(node);
            }
            switch (node.kind) {
                case ACTION:
                    return act(node, SUCCESS);
                case FAILING_ACTION:
                    return act(node, FAILURE);
                case CONDITION:
                    return board.fulfils(node.clause) ? SUCCESS : FAILURE;
                case EFFECT:
                    board.change(node.clause);
                    return SUCCESS;
                case SEQUENCE:
                case SELECTOR:
                    return goDown(life.current);
                case PARALLEL:
                    return goOnInParallel(node, node.firstChild);
                case GUARD:
                    return goDownIf(board.fulfils(node.clause), node);
                case TIME_LIMIT:
                    life.counted++;
                    return goDownIf(life.counted <= node.number, node);
                default:
                    return goDown(node.firstChild);
            }
        }

        private void beginRun(Node node) {
            Life life = node.life;
            life.running = true;
            life.runs++;
            life.counted = 0;
            life.current = node.firstChild;
            life.local = 0;
            for (Node child = node.firstChild; child != null; child = child.nextSibling) {
                child.life.latest = GOES_DOWN;
            }
        }

        private int act(Node node, int result) {
            if (node.life.counted < node.number) {
                node.life.counted++;
                return RUNNING;
            }
            if (node.clause.present) {
                board.change(node.clause);
            }
            return result;
        }

        private int goDown(Node child) {
            ledger.next = child;
            return GOES_DOWN;
        }

        private int goDownIf(boolean allowed, Node node) {
            if (allowed) {
                return goDown(node.firstChild);
            }
            stopBack(node, node.firstChild);
            return FAILURE;
        }

        private void endVisit(Node node, int result) {
            node.life.latest = result;
            if (result == RUNNING) {
                ledger.enter(node, result);
            } else {
                endRun(node, result);
            }
        }

        /** What the result of a child means for the visit of its node. */
        private int goOn(Node node, Node child, int result) {
            switch (node.kind) {
                case SEQUENCE:
                case REACTIVE_SEQUENCE:
                    return goOnInList(node, child, result, SUCCESS);
                case SELECTOR:
                case REACTIVE_SELECTOR:
                    return goOnInList(node, child, result, FAILURE);
                case PARALLEL:
                    return goOnInParallel(node, child.nextSibling);
                case INVERSION:
                    return result == RUNNING ? RUNNING : SUCCESS + FAILURE - result;
                case REPETITION:
                    return countResult(node, result, SUCCESS);
                case RETRY:
                    return countResult(node, result, FAILURE);
                default:
                    return result;
            }
        }

        private int goOnInList(Node node, Node child, int result, int passing) {
            Node later = child.nextSibling;
            if (result == passing && later != null) {
                node.life.current = later;
                return goDown(later);
            }
            if (node.isReactive()) {
                stopBack(node, later);
            }
            return result;
        }

        private int goOnInParallel(Node node, Node from) {
            for (Node child = from; child != null; child = child.nextSibling) {
                if (child.life.latest != SUCCESS && child.life.latest != FAILURE) {
                    return goDown(child);
                }
            }
            int succeeded = 0;
            int failed = 0;
            for (Node child = node.firstChild; child != null; child = child.nextSibling) {
                succeeded += child.life.latest == SUCCESS ? 1 : 0;
                failed += child.life.latest == FAILURE ? 1 : 0;
            }
            if (succeeded < node.number && failed <= node.children - node.number) {
                return RUNNING;
            }
            stopBack(node, node.firstChild);
            return succeeded >= node.number ? SUCCESS : FAILURE;
        }

        private int countResult(Node node, int result, int counting) {
            if (result != counting) {
                return result;
            }
            node.life.counted++;
            return node.life.counted < node.number ? RUNNING : result;
        }
    }
}
