/** The boundary cases of promises 11 node, 12 child, 13 underWay, 14 pending, 15 trace and 16 count. */
final class InspectionBoundsTest {
    private static final int[] FAR = {Integer.MIN_VALUE, -1000, Integer.MAX_VALUE, 1000};

    public static void main(String[] args) {
        nodesOfNode();
        propertiesOfNode();
        nodeZeroAndItsParent();
        numbersOfChildren();
        numbersAndKeys();
        countsOfRuns();
        visitsThatHaveNotEnded();
        depths();
        localValues();
        nodesOfChild();
        indexesOfChild();
        childrenOfEveryTree();
        underWayFromNodeZero();
        underWayOnlyWhileSuspended();
        pendingIsTheNextVisit();
        pendingOnlyWhileSuspended();
        traceOfEveryLength();
        traceHoldsTheLatest();
        traceOfAborts();
        traceOfVisitsThatHaveNotEnded();
        traceArguments();
        countsOfCount();
        everyCount();
        countOfCharacters();
        countOfEntries();
        Check.end();
    }

    private static void nodesOfNode() {
        Check.sentence("node: NONE if there is no such node");
        for (int children : new int[] {1, 2, 21, 22}) {
            BehaviorRunner x = Check.with("s(" + Check.list("a0", children) + ")");
            for (int what = 0; what <= 11; what++) {
                Check.due("the last node", x.node(children, what) == Check.NONE ? 1 : 0, 0);
                Check.due("one behind the last", x.node(children + 1, what), Check.NONE);
                Check.due("node -1", x.node(-1, what), Check.NONE);
            }
            for (int node : FAR) {
                Check.due("node " + node, x.node(node, 0), Check.NONE);
            }
        }
        Check.due("without a tree", new BehaviorRunner().node(0, 0), Check.NONE);
        BehaviorRunner x = Check.with("p0(" + Check.list("!a0", 11) + ",a0)");
        Check.due("node 23", x.node(23, 0), 0);
        Check.due("node 24", x.node(24, 0), Check.NONE);
    }

    private static void propertiesOfNode() {
        Check.sentence("node: BAD_ARGUMENT if what is not from 0 to 11");
        BehaviorRunner x = Check.with("s(a0)");
        for (int node = 0; node <= 1; node++) {
            Check.due("what 12", x.node(node, 12), Check.BAD_ARGUMENT);
            Check.due("what -1", x.node(node, -1), Check.BAD_ARGUMENT);
            for (int what : FAR) {
                Check.due("what " + what, x.node(node, what), Check.BAD_ARGUMENT);
            }
        }
        Check.sentence("If several errors apply, the one that is listed first at the method is returned.");
        Check.due("no node, what 12", x.node(2, 12), Check.NONE);
        Check.due("no node, what -1", x.node(-1, -1), Check.NONE);
        Check.due("no tree, what 12", new BehaviorRunner().node(0, 12), Check.NONE);
    }

    private static void nodeZeroAndItsParent() {
        Check.sentence("1 for the node above it, -1 for node 0");
        Check.due("one node", Check.nodes(Check.with("a0"), 1), "-1");
        Check.due("ten deep", Check.nodes(Check.with("!!!!!!!!!a0"), 1), "-1 0 1 2 3 4 5 6 7 8");
        Check.due("behind a deep child", Check.nodes(Check.with("s(!!!!!!!!a0,a0,s(a0),a0)"), 1), "-1 0 1 2 3 4 5 6 7 8 0 0 11 0");
    }

    private static void numbersOfChildren() {
        Check.sentence("2 for the number of its children");
        Check.due("every kind", Check.nodes(Check.with("s(a0,x0,?0=0,=0:0)"), 2), "4 0 0 0 0");
        Check.due("every kind", Check.nodes(Check.with("s(f(S(F(p0(!r1t1l0a0)))))"), 2), "1 1 1 1 1 1 1 1 1 0");
        Check.due("every kind", Check.nodes(Check.with("g0=0w0x0"), 2), "1 1 0");
        for (int children = 1; children <= 22; children++) {
            Check.due("children", Check.with("F(" + Check.list("x0", children) + ")").node(0, 2), children);
        }
    }

    private static void numbersAndKeys() {
        Check.sentence("4 for its number, for a scope its key, 0 where it has none, as for conditions, effects and guards");
        for (int n = 0; n <= 9; n++) {
            for (String head : new String[] {"a", "x", "p", "r", "t", "w", "l"}) {
                boolean fits = n >= (head.equals("r") || head.equals("t") ? 1 : 0) && n <= (head.equals("l") ? 7 : 9);
                String rest = head.equals("a") || head.equals("x") ? "1:77~2:88" : head.equals("p") ? "(a0)" : "a0";
                BehaviorRunner x = new BehaviorRunner();
                Check.due("readTree of " + head + n, Check.read(x, head + n + rest) > 0 ? 1 : 0, fits ? 1 : 0);
                Check.due("number of " + head + n, x.node(0, 4), fits ? n : Check.NONE);
            }
        }
        Check.due("without a number", Check.nodes(Check.with("s(?7=99,=6:98,f(a0),S(a0),F(a0),!a0,g5=97a0)"), 4),
                "0 0 0 0 0 0 0 0 0 0 0 0 0");
        Check.due("after one with numbers", Check.nodes(again("p9(a9,x8,r7a6)", "s(?1=2,=1:2,!a0)"), 4), "0 0 0 0 0");
    }

    private static BehaviorRunner again(String first, String second) {
        BehaviorRunner x = Check.with(first);
        Check.read(x, second);
        return x;
    }

    private static void countsOfRuns() {
        Check.sentence("5 for the runs that began, 6 for those that ended with success, 7 ... failure, 8 ... aborted");
        BehaviorRunner x = Check.with("S(?0<2,f(?0=1,a9))");
        x.tick(9);
        x.set(0, 2);
        x.tick(9);
        x.set(0, 1);
        x.tick(9);
        x.set(0, 0);
        x.tick(9);
        x.abort();
        x.tick(1);
        Check.due("began", Check.nodes(x, 5), "4 4 3 3 2");
        Check.due("success", Check.nodes(x, 6), "1 3 1 1 0");
        Check.due("failure", Check.nodes(x, 7), "1 1 0 2 0");
        Check.due("aborted", Check.nodes(x, 8), "1 0 2 0 2");
        Check.due("state", Check.nodes(x, 3), "1 0 0 0 0");
    }

    private static void visitsThatHaveNotEnded() {
        Check.sentence("9 for its visits, also those that have not ended");
        BehaviorRunner x = Check.with("!!a1");
        String[] due = {"0 0 0", "1 0 0", "1 1 0", "1 1 1", "2 1 1", "2 2 1", "2 2 2"};
        for (int i = 0; i < due.length; i++) {
            Check.due("visits after " + i, Check.nodes(x, 9), due[i]);
            Check.due("all visits after " + i, x.count(4), i);
            x.tick(1);
        }
        BehaviorRunner y = Check.with("!!a1");
        y.tick(2);
        y.abort();
        Check.due("visits after an abort", Check.nodes(y, 9), "1 1 0");
    }

    private static void depths() {
        Check.sentence("Nodes can be nested at most 10 deep, node 0 being at depth 1.");
        Check.due("depths", Check.nodes(Check.with("!!!!!!!!!a0"), 10), "1 2 3 4 5 6 7 8 9 10");
        Check.due("depths", Check.nodes(Check.with("s(f(p0(a0,l0g0=0w1r1t1!a0),a0),a0)"), 10), "1 2 3 4 4 5 6 7 8 9 10 3 2");
        Check.due("one node", Check.with("?0=0").node(0, 10), 1);
    }

    private static void localValues() {
        Check.sentence("11 for the local value of a scope, 0 for others");
        BehaviorRunner x = Check.with("s(l0s(=0:99,a0~0:98),l1=1-99,=0:97,a0)");
        x.set(1, 5);
        Check.due("at first", Check.nodes(x, 11), "0 0 0 0 0 0 0 0 0");
        x.tick(99);
        Check.due("after a tick", Check.nodes(x, 11), "0 98 0 0 0 -99 0 0 0");
        Check.due("after another tree", Check.nodes(again("l0=0:9", "l0a0"), 11), "0 0");
    }

    private static void nodesOfChild() {
        Check.sentence("child: NONE if there is no such node or child");
        BehaviorRunner x = Check.with("s(a0,!a0)");
        for (int node : new int[] {-1, 4, 24}) {
            Check.due("child(" + node + ", 0)", x.child(node, 0), Check.NONE);
        }
        for (int node : FAR) {
            Check.due("child(" + node + ", 0)", x.child(node, 0), Check.NONE);
            Check.due("child(" + node + ", " + node + ")", x.child(node, node), Check.NONE);
        }
        Check.due("a leaf", x.child(1, 0), Check.NONE);
        Check.due("the last node", x.child(3, 0), Check.NONE);
        Check.due("without a tree", new BehaviorRunner().child(0, 0), Check.NONE);
    }

    private static void indexesOfChild() {
        Check.sentence("child: index: the index of the child, from 0");
        for (int children = 1; children <= 22; children++) {
            BehaviorRunner x = Check.with("S(" + Check.list("x0", children) + ")");
            Check.due("the first child", x.child(0, 0), 1);
            Check.due("the last child", x.child(0, children - 1), children);
            Check.due("behind the last child", x.child(0, children), Check.NONE);
            Check.due("index -1", x.child(0, -1), Check.NONE);
            for (int index : FAR) {
                Check.due("index " + index, x.child(0, index), Check.NONE);
            }
        }
        BehaviorRunner y = Check.with("!a0");
        Check.due("the only child", y.child(0, 0), 1);
        Check.due("no second child", y.child(0, 1), Check.NONE);
    }

    private static void childrenOfEveryTree() {
        Check.sentence("child: Returns the number of the child");
        BehaviorRunner x = Check.with("s(p1(a0,l0!a0),f(a0),a0,S(a0,F(a0,a0)),w1a0)");
        StringBuilder children = new StringBuilder();
        for (int node = 0; node < x.count(0); node++) {
            for (int i = 0; x.child(node, i) != Check.NONE; i++) {
                children.append(node).append('>').append(x.child(node, i)).append(' ');
                Check.due("the node above", x.node(x.child(node, i), 1), node);
            }
        }
        Check.due("children", children.toString(),
                "0>1 0>6 0>8 0>9 0>14 1>2 1>3 3>4 4>5 6>7 9>10 9>11 11>12 11>13 14>15 ");
        Check.due("children of a smaller tree", again("s(a0,a0,a0)", "s(a0,a0)").child(0, 2), Check.NONE);
    }

    private static void underWayFromNodeZero() {
        Check.sentence("underWay: index: the index, 0 for node 0, 1 for the node that it visits, and so on");
        BehaviorRunner x = Check.with("!!!!!!!!!a0");
        StringBuilder due = new StringBuilder();
        for (int units = 1; units <= 9; units++) {
            x.tick(1);
            due.append(units == 1 ? "" : " ").append(units - 1);
            Check.due("underWay after " + units, Check.underWay(x), due.toString());
            Check.due("behind the last", x.underWay(units), Check.NONE);
            Check.due("index -1", x.underWay(-1), Check.NONE);
        }
        for (int index : FAR) {
            Check.due("index " + index, x.underWay(index), Check.NONE);
        }
        BehaviorRunner y = Check.with("s(!x0,p2(a0,r2!a0,a9),a0)");
        String[] ways = {"", "0", "0 1", "0", "0 3", "0 3", "0 3 5", "0 3 5 6", "0 3", ""};
        for (int i = 0; i < ways.length; i++) {
            Check.due("underWay after " + i, Check.underWay(y), ways[i]);
            y.tick(1);
        }
    }

    private static void underWayOnlyWhileSuspended() {
        Check.sentence("Returns a node whose visit has not ended in the suspended tick.");
        Check.due("without a tree", new BehaviorRunner().underWay(0), Check.NONE);
        BehaviorRunner x = Check.with("!a1");
        Check.due("before a tick", x.underWay(0), Check.NONE);
        x.tick(9);
        Check.due("node 0 is running, but its visit has ended", x.underWay(0), Check.NONE);
        x.tick(1);
        Check.due("in a tick", x.underWay(0), 0);
        x.foresee();
        Check.due("after foresee", x.underWay(0), 0);
        x.abort();
        Check.due("after an abort", x.underWay(0), Check.NONE);
        x.tick(1);
        x.run(1);
        Check.due("after run", x.underWay(0), Check.NONE);
    }

    private static void pendingIsTheNextVisit() {
        Check.sentence("Returns the node whose visit is the next one in the suspended tick.");
        BehaviorRunner x = Check.with("s(!a0,F(x0,g1=1a0,w0a0,!a0,a9),a0)");
        int[] due = {Check.NONE, 1, 2, Check.NONE};
        for (int i = 0; i < due.length; i++) {
            Check.due("pending after " + i, x.pending(), due[i]);
            x.tick(1);
        }
        BehaviorRunner y = Check.with("F(x0,g1=1a0,w0a0,!a0,a9)");
        int[] next = {Check.NONE, 1, 2, 4, 6, 7, 8, Check.NONE, 1};
        for (int i = 0; i < next.length; i++) {
            Check.due("pending after " + i, y.pending(), next[i]);
            y.tick(1);
        }
        BehaviorRunner z = Check.after("p1(x0,a9,x0,x9)", 1);
        int[] open = {Check.NONE, 2, 4, Check.NONE};
        for (int i = 0; i < open.length; i++) {
            Check.due("pending in the second tick after " + i, z.pending(), open[i]);
            z.tick(1);
        }
    }

    private static void pendingOnlyWhileSuspended() {
        Check.sentence("pending: NONE if no tick is suspended");
        BehaviorRunner x = new BehaviorRunner();
        Check.due("without a tree", x.pending(), Check.NONE);
        Check.read(x, "!a1");
        Check.due("before a tick", x.pending(), Check.NONE);
        x.tick(1);
        Check.due("in a tick", x.pending(), 1);
        x.tick(1);
        Check.due("after a tick", x.pending(), Check.NONE);
        x.tick(1);
        x.abort();
        Check.due("after an abort", x.pending(), Check.NONE);
        x.tick(1);
        Check.read(x, "!a");
        Check.due("after a wrong text", x.pending(), 1);
        Check.read(x, "!a1");
        Check.due("after another tree", x.pending(), Check.NONE);
    }

    private static void traceOfEveryLength() {
        Check.sentence("The latest 30 entries are kept");
        BehaviorRunner x = Check.with("a9");
        for (int ticks = 0; ticks <= 95; ticks++) {
            int entries = Math.min(ticks, 30);
            Check.due("entries after " + ticks, x.count(9), entries);
            Check.due("the oldest of " + entries, x.trace(entries - 1, 0), entries == 0 ? Check.NONE : 0);
            Check.due("behind the oldest of " + entries, x.trace(entries, 0), Check.NONE);
            x.tick(1);
        }
    }

    private static void traceHoldsTheLatest() {
        Check.sentence("trace: index: the index, 0 for the latest entry");
        for (int ticks = 0; ticks <= 15; ticks++) {
            BehaviorRunner x = Check.after("p2(a0,x0,a1,x9)", ticks);
            StringBuilder all = new StringBuilder();
            for (int i = 0; i < ticks; i++) {
                all.append(i % 2 == 0 ? "1:2 2:3 3:1 4:1 0:1 " : "3:2 4:1 4:4 0:2 ");
            }
            String[] entries = all.toString().trim().split(" ");
            StringBuilder due = new StringBuilder();
            for (int i = Math.max(0, entries.length - 30); i < entries.length; i++) {
                due.append(due.length() == 0 ? "" : " ").append(entries[i]);
            }
            Check.due("trace after " + ticks, Check.trace(x), due.toString());
        }
    }

    private static void traceOfAborts() {
        Check.sentence("or 4 when it was aborted, also by a call of abort");
        BehaviorRunner x = Check.after("p9(" + Check.list("a9", 22) + ")", 1);
        Check.due("entries", x.count(9), 23);
        x.abort();
        for (int i = 0; i <= 22; i++) {
            Check.due("node of entry " + i, x.trace(i, 0), i);
            Check.due("result of entry " + i, x.trace(i, 1), Check.ABORTED);
        }
        for (int i = 23; i <= 29; i++) {
            Check.due("result of entry " + i, x.trace(i, 1), Check.RUNNING);
        }
        Check.due("node of entry 29", x.trace(29, 0), 17);
        Check.due("entry 30", x.trace(30, 1), Check.NONE);
        Check.due("no result of a visit is 4", Check.trace(Check.after("w1a9", 2)), "1:1 0:1 1:4 0:3");
    }

    private static void traceOfVisitsThatHaveNotEnded() {
        Check.sentence("a node and its result at the end of a visit");
        BehaviorRunner x = Check.with("!!!a0");
        for (int units = 1; units <= 3; units++) {
            x.tick(1);
            Check.due("entries in " + units + " visits", x.count(9), 0);
            Check.due("trace(0, 0)", x.trace(0, 0), Check.NONE);
        }
        x.tick(1);
        Check.due("entries after the tick", Check.trace(x), "3:2 2:3 1:2 0:3");
    }

    private static void traceArguments() {
        Check.sentence("trace: NONE if there is no such entry; BAD_ARGUMENT if what is not 0 or 1");
        BehaviorRunner x = Check.after("a9", 2);
        for (int what : new int[] {-1, 2, 3, Integer.MIN_VALUE, Integer.MAX_VALUE}) {
            Check.due("trace(0, " + what + ")", x.trace(0, what), Check.BAD_ARGUMENT);
            Check.due("trace(1, " + what + ")", x.trace(1, what), Check.BAD_ARGUMENT);
            Check.due("trace(2, " + what + ")", x.trace(2, what), Check.NONE);
            Check.due("trace(-1, " + what + ")", x.trace(-1, what), Check.NONE);
            Check.due("trace(0, " + what + ") without a tree", new BehaviorRunner().trace(0, what), Check.NONE);
        }
        for (int index : FAR) {
            Check.due("trace(" + index + ", 0)", x.trace(index, 0), Check.NONE);
            Check.due("trace(" + index + ", 1)", x.trace(index, 1), Check.NONE);
        }
        Check.due("trace(1, 1)", x.trace(1, 1), Check.RUNNING);
        Check.due("trace(2, 1)", x.trace(2, 1), Check.NONE);
    }

    private static void countsOfCount() {
        Check.sentence("count: BAD_ARGUMENT if what is not from 0 to 10");
        for (BehaviorRunner x : new BehaviorRunner[] {new BehaviorRunner(), Check.after("a9", 2)}) {
            for (int what : new int[] {-1, 11, 12, 1000, -1000, Integer.MIN_VALUE, Integer.MAX_VALUE}) {
                Check.due("count(" + what + ")", x.count(what), Check.BAD_ARGUMENT);
            }
            Check.due("count(0)", x.count(0) < 0 ? 1 : 0, 0);
            Check.due("count(10)", x.count(10), 0);
        }
    }

    private static void everyCount() {
        Check.sentence("count: 0 for nodes, 1 for ticks that have ended, 2 ... success, 3 ... failure, 4 for visits that have begun, ...");
        BehaviorRunner x = Check.with("S(!?0=3,f(?0=1,a2~7+1,x0),?0<2)");
        x.tick(9);
        counts(x, "8 1 0 0 6 0 0 3 0 6 0");
        x.tick(2);
        counts(x, "8 1 0 0 8 0 0 4 1 6 0");
        x.tick(1);
        counts(x, "8 1 0 0 9 0 0 3 2 8 0");
        x.set(0, 3);
        x.tick(9);
        counts(x, "8 2 0 0 11 0 0 3 2 11 0");
        x.tick(9);
        counts(x, "8 3 0 1 14 2 1 0 2 16 0");
        x.set(0, 1);
        x.tick(9);
        counts(x, "8 4 1 1 20 2 1 0 2 22 0");
        x.append('q', 7);
        x.tick(3);
        counts(x, "8 4 1 1 23 2 1 1 3 24 7");
        x.abort();
        counts(x, "8 4 1 1 23 3 1 0 3 25 7");
    }

    private static void counts(BehaviorRunner x, String due) {
        StringBuilder text = new StringBuilder();
        for (int what = 0; what <= 10; what++) {
            text.append(what == 0 ? "" : " ").append(x.count(what));
        }
        Check.due("counts", text.toString(), due);
    }

    private static void countOfCharacters() {
        Check.sentence("10 for characters of the text");
        BehaviorRunner x = new BehaviorRunner();
        for (int length = 1; length <= 70; length++) {
            x.append('!', 1);
            Check.due("characters", x.count(10), length);
        }
        x.append('!', 1);
        Check.due("characters of a full text", x.count(10), 70);
        x.readTree();
        Check.due("characters after readTree", x.count(10), 0);
    }

    private static void countOfEntries() {
        Check.sentence("9 for entries of the trace");
        BehaviorRunner x = Check.after("!!!a9", 7);
        Check.due("28 entries", x.count(9), 28);
        x.tick(9);
        Check.due("not more than 30 entries", x.count(9), 30);
        x.abort();
        Check.due("not more than 30 entries", x.count(9), 30);
    }
}
