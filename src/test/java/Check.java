/** What the tests share: comparing answers, and making runners with a tree. */
final class Check {
    static final int NONE = -1001;
    static final int BAD_ARGUMENT = -1002;
    static final int FULL = -1003;
    static final int NO_TREE = -1004;
    static final int SUSPENDED = 5;

    static final int RUNNING = 1;
    static final int SUCCESS = 2;
    static final int FAILURE = 3;
    static final int ABORTED = 4;

    private static int wrong = 0;
    private static int answers = 0;
    private static String sentence = "";

    private Check() {
    }

    /** Names the sentence of the document by which the next answers are due; a wrong answer is told with it. */
    static void sentence(String words) {
        sentence = "[" + words + "] ";
    }

    /** Notes an answer that is not the one that is due. */
    static void due(String what, long got, long want) {
        answers++;
        if (got != want) {
            wrong++;
            System.out.println(sentence + what + " answered " + got + ", due is " + want);
        }
    }

    static void due(String what, String got, String want) {
        answers++;
        if (!got.equals(want)) {
            wrong++;
            System.out.println(sentence + what + " answered \"" + got + "\", due is \"" + want + "\"");
        }
    }

    /** Ends the test, with exit code 1 if an answer was wrong. */
    static void end() {
        System.out.println(answers + " answers looked at, " + wrong + " wrong");
        if (wrong != 0) {
            System.exit(1);
        }
    }

    /** Appends a text, a call for each run of the same character, and reads it. */
    static int read(BehaviorRunner runner, String text) {
        type(runner, text);
        return runner.readTree();
    }

    static void type(BehaviorRunner runner, String text) {
        int i = 0;
        while (i < text.length()) {
            int from = i;
            while (i < text.length() && text.charAt(i) == text.charAt(from)) {
                i++;
            }
            runner.append(text.charAt(from), i - from);
        }
    }

    /** A new runner with a tree. */
    static BehaviorRunner with(String text) {
        BehaviorRunner runner = new BehaviorRunner();
        int nodes = read(runner, text);
        if (nodes < 1) {
            due("readTree of " + text, nodes, 1);
        }
        return runner;
    }

    /** A new runner with a tree, after some ticks with enough budget. */
    static BehaviorRunner after(String text, int ticks) {
        BehaviorRunner runner = with(text);
        ticks(runner, ticks);
        return runner;
    }

    /** The written text, by all its characters. */
    static String written(BehaviorRunner runner) {
        StringBuilder text = new StringBuilder();
        for (int i = 0; runner.written(i) != NONE; i++) {
            text.append((char) runner.written(i));
        }
        return text.toString();
    }

    /** The trace, from the oldest entry to the latest, as "node:result" with spaces between. */
    static String trace(BehaviorRunner runner) {
        StringBuilder text = new StringBuilder();
        for (int i = runner.count(9) - 1; i >= 0; i--) {
            text.append(runner.trace(i, 0)).append(':').append(runner.trace(i, 1));
            text.append(i == 0 ? "" : " ");
        }
        return text.toString();
    }

    /** A property of every node, with spaces between. */
    static String nodes(BehaviorRunner runner, int what) {
        StringBuilder text = new StringBuilder();
        int nodes = runner.count(0);
        for (int i = 0; i < nodes; i++) {
            text.append(i == 0 ? "" : " ").append(runner.node(i, what));
        }
        return text.toString();
    }

    /** The results of some ticks with enough budget, with spaces between. */
    static String ticks(BehaviorRunner runner, int ticks) {
        StringBuilder text = new StringBuilder();
        for (int i = 0; i < ticks; i++) {
            text.append(i == 0 ? "" : " ").append(runner.tick(999));
        }
        return text.toString();
    }

    /** The global values, with spaces between. */
    static String globals(BehaviorRunner runner) {
        StringBuilder text = new StringBuilder();
        for (int key = 0; key <= 7; key++) {
            text.append(key == 0 ? "" : " ").append(runner.value(-1, key));
        }
        return text.toString();
    }

    /** The nodes whose visits have not ended, with spaces between. */
    static String underWay(BehaviorRunner runner) {
        StringBuilder text = new StringBuilder();
        for (int i = 0; runner.underWay(i) != NONE; i++) {
            text.append(i == 0 ? "" : " ").append(runner.underWay(i));
        }
        return text.toString();
    }

    /** A node several times, with commas between, as the children of a list. */
    static String list(String node, int times) {
        StringBuilder text = new StringBuilder();
        for (int i = 0; i < times; i++) {
            text.append(i == 0 ? "" : ",").append(node);
        }
        return text.toString();
    }

    /**
     * Everything that can be asked of a runner without changing it, but for the typed and written texts.
     * This takes some 210 calls for ten nodes: an object has 512.
     */
    static String state(BehaviorRunner runner) {
        StringBuilder text = new StringBuilder();
        for (int what = 0; what <= 9; what++) {
            text.append(runner.count(what)).append(' ');
        }
        text.append('|').append(globals(runner));
        for (int what = 0; what <= 11; what++) {
            text.append('|').append(nodes(runner, what));
        }
        text.append('|').append(runner.pending()).append('|').append(underWay(runner));
        return text.append('|').append(trace(runner)).toString();
    }
}
