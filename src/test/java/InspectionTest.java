/** Promises 11 node, 12 child, 13 underWay, 14 pending, 15 trace and 16 count. */
final class InspectionTest {
    public static void main(String[] args) {
        nodeArguments();
        nodeStructure();
        nodeNumbers();
        nodeCounts();
        child();
        underWay();
        trace();
        traceKeepsTheLatest();
        countArguments();
        counts();
        Check.end();
    }

    private static void nodeArguments() {
        BehaviorRunner x = Check.with("s(a0,a0)");
        Check.due("node(3, 0)", x.node(3, 0), Check.NONE);
        Check.due("node(-1, 0)", x.node(-1, 0), Check.NONE);
        Check.due("node(24, 0)", x.node(24, 0), Check.NONE);
        Check.due("node(least, least)", x.node(Integer.MIN_VALUE, Integer.MIN_VALUE), Check.NONE);
        Check.due("node(greatest, 0)", x.node(Integer.MAX_VALUE, 0), Check.NONE);
        Check.due("node(3, 12)", x.node(3, 12), Check.NONE);
        Check.due("node(0, 12)", x.node(0, 12), Check.BAD_ARGUMENT);
        Check.due("node(0, -1)", x.node(0, -1), Check.BAD_ARGUMENT);
        Check.due("node(0, least)", x.node(0, Integer.MIN_VALUE), Check.BAD_ARGUMENT);
        Check.due("node(2, greatest)", x.node(2, Integer.MAX_VALUE), Check.BAD_ARGUMENT);
    }

    private static void nodeStructure() {
        BehaviorRunner x = Check.with("s(f(a9,x8,r2!a0),p3(w0?0<1),a0)");
        Check.due("kinds", Check.nodes(x, 0), "4 5 0 1 10 9 0 8 13 2 0");
        Check.due("above", Check.nodes(x, 1), "-1 0 1 1 1 4 5 0 7 8 0");
        Check.due("children", Check.nodes(x, 2), "3 3 0 0 1 1 0 1 1 0 0");
        Check.due("depths", Check.nodes(x, 10), "1 2 3 3 3 4 5 2 3 4 2");
    }

    private static void nodeNumbers() {
        BehaviorRunner x = Check.with("p9(a70:55~1:66,x8,?3<44,=5:33,!l6r4t5w0g2>22a1)");
        Check.due("numbers", Check.nodes(x, 4), "9 7 8 0 0 0 6 4 5 0 0 1");
        Check.due("kinds", Check.nodes(x, 0), "8 0 1 2 3 9 14 10 11 13 12 0");
        x.tick(99);
        Check.due("numbers after a tick", Check.nodes(x, 4), "9 7 8 0 0 0 6 4 5 0 0 1");
        Check.due("local values", Check.nodes(Check.with("l5a0"), 11), "0 0");
    }

    private static void nodeCounts() {
        BehaviorRunner x = Check.with("S(?0=0,a1,!x0)");
        x.tick(99);
        Check.due("states after tick 1", Check.nodes(x, 3), "1 0 1 0 0");
        x.tick(99);
        x.tick(99);
        x.set(0, 1);
        x.tick(99);
        x.set(0, 0);
        x.tick(2);
        Check.due("states", Check.nodes(x, 3), "1 0 0 0 0");
        Check.due("runs that began", Check.nodes(x, 5), "3 5 2 1 1");
        Check.due("ended with success", Check.nodes(x, 6), "1 4 1 1 0");
        Check.due("ended with failure", Check.nodes(x, 7), "1 1 0 0 1");
        Check.due("aborted", Check.nodes(x, 8), "0 0 1 0 0");
        Check.due("visits", Check.nodes(x, 9), "5 5 3 1 1");
        Check.due("abort", x.abort(), 1);
        Check.due("aborted", Check.nodes(x, 8), "1 0 1 0 0");
    }

    private static void child() {
        BehaviorRunner x = Check.with("s(f(a9,x8),!a0,a0)");
        Check.due("child(0, 0)", x.child(0, 0), 1);
        Check.due("child(0, 1)", x.child(0, 1), 4);
        Check.due("child(0, 2)", x.child(0, 2), 6);
        Check.due("child(0, 3)", x.child(0, 3), Check.NONE);
        Check.due("child(0, -1)", x.child(0, -1), Check.NONE);
        Check.due("child(0, least)", x.child(0, Integer.MIN_VALUE), Check.NONE);
        Check.due("child(0, greatest)", x.child(0, Integer.MAX_VALUE), Check.NONE);
        Check.due("child(1, 1)", x.child(1, 1), 3);
        Check.due("child(4, 0)", x.child(4, 0), 5);
        Check.due("child(4, 1)", x.child(4, 1), Check.NONE);
        Check.due("child(6, 0)", x.child(6, 0), Check.NONE);
        Check.due("child(7, 0)", x.child(7, 0), Check.NONE);
        Check.due("child(-1, 0)", x.child(-1, 0), Check.NONE);
        Check.due("child(greatest, 0)", x.child(Integer.MAX_VALUE, 0), Check.NONE);
    }

    private static void underWay() {
        BehaviorRunner x = Check.with("s(a0,!f(x0,r2a0))");
        Check.due("underWay of no tick", x.underWay(0), Check.NONE);
        Check.due("tick", x.tick(5), Check.SUSPENDED);
        Check.due("pending", x.pending(), 5);
        Check.due("underWay(0)", x.underWay(0), 0);
        Check.due("underWay(1)", x.underWay(1), 2);
        Check.due("underWay(2)", x.underWay(2), 3);
        Check.due("underWay(3)", x.underWay(3), Check.NONE);
        Check.due("underWay(-1)", x.underWay(-1), Check.NONE);
        Check.due("underWay(least)", x.underWay(Integer.MIN_VALUE), Check.NONE);
        Check.due("underWay(greatest)", x.underWay(Integer.MAX_VALUE), Check.NONE);
        Check.due("tick", x.tick(1), Check.SUSPENDED);
        Check.due("underWay(3)", x.underWay(3), 5);
        Check.due("pending", x.pending(), 6);
        Check.due("tick", x.tick(1), Check.RUNNING);
        Check.due("underWay(0) after the tick", x.underWay(0), Check.NONE);
        Check.due("pending after the tick", x.pending(), Check.NONE);
    }

    private static void trace() {
        BehaviorRunner x = Check.with("s(a0,a1)");
        Check.due("trace(0, 0)", x.trace(0, 0), Check.NONE);
        Check.due("trace(0, 2) without entries", x.trace(0, 2), Check.NONE);
        x.tick(99);
        x.abort();
        Check.due("trace", Check.trace(x), "1:2 2:1 0:1 2:4 0:4");
        Check.due("trace(0, 0)", x.trace(0, 0), 0);
        Check.due("trace(0, 1)", x.trace(0, 1), Check.ABORTED);
        Check.due("trace(1, 0)", x.trace(1, 0), 2);
        Check.due("trace(4, 0)", x.trace(4, 0), 1);
        Check.due("trace(5, 0)", x.trace(5, 0), Check.NONE);
        Check.due("trace(5, 2)", x.trace(5, 2), Check.NONE);
        Check.due("trace(-1, 0)", x.trace(-1, 0), Check.NONE);
        Check.due("trace(least, 0)", x.trace(Integer.MIN_VALUE, 0), Check.NONE);
        Check.due("trace(greatest, 0)", x.trace(Integer.MAX_VALUE, 0), Check.NONE);
        Check.due("trace(0, 2)", x.trace(0, 2), Check.BAD_ARGUMENT);
        Check.due("trace(0, -1)", x.trace(0, -1), Check.BAD_ARGUMENT);
        Check.due("trace(0, greatest)", x.trace(0, Integer.MAX_VALUE), Check.BAD_ARGUMENT);
    }

    private static void traceKeepsTheLatest() {
        BehaviorRunner x = Check.with("s(a0,x0)");
        for (int i = 0; i < 10; i++) {
            x.tick(99);
        }
        Check.due("entries", x.count(9), 30);
        Check.due("trace(29, 0)", x.trace(29, 0), 1);
        Check.due("trace(30, 0)", x.trace(30, 0), Check.NONE);
        x.tick(2);
        Check.due("entries", x.count(9), 30);
        Check.due("trace(0, 0)", x.trace(0, 0), 1);
        Check.due("trace(29, 0)", x.trace(29, 0), 2);
        Check.due("trace(29, 1)", x.trace(29, 1), Check.FAILURE);
        Check.due("trace(30, 0)", x.trace(30, 0), Check.NONE);
        x.abort();
        Check.due("trace(0, 1)", x.trace(0, 1), Check.ABORTED);
        Check.due("trace(29, 0)", x.trace(29, 0), 0);
    }

    private static void countArguments() {
        BehaviorRunner x = Check.with("a0");
        Check.due("count(-1)", x.count(-1), Check.BAD_ARGUMENT);
        Check.due("count(11)", x.count(11), Check.BAD_ARGUMENT);
        Check.due("count(least)", x.count(Integer.MIN_VALUE), Check.BAD_ARGUMENT);
        Check.due("count(greatest)", x.count(Integer.MAX_VALUE), Check.BAD_ARGUMENT);
    }

    private static String counts(BehaviorRunner x) {
        StringBuilder text = new StringBuilder();
        for (int what = 0; what <= 10; what++) {
            text.append(what == 0 ? "" : " ").append(x.count(what));
        }
        return text.toString();
    }

    private static void counts() {
        BehaviorRunner x = Check.with("S(?0=0,f(x0,a1~1+1))");
        Check.due("counts of a new tree", counts(x), "5 0 0 0 0 0 0 0 0 0 0");
        x.tick(99);
        Check.due("counts after a tick", counts(x), "5 1 0 0 5 0 0 3 0 5 0");
        x.tick(99);
        Check.due("counts after a success", counts(x), "5 2 1 0 9 0 1 0 0 9 0");
        x.tick(99);
        x.set(0, 1);
        x.tick(99);
        Check.due("counts after a failure", counts(x), "5 4 1 1 16 2 2 0 0 18 0");
        x.tick(1);
        Check.due("counts after a suspension", counts(x), "5 4 1 1 17 2 2 1 1 18 0");
        x.abort();
        x.append(97, 3);
        Check.due("counts after an abort", counts(x), "5 4 1 1 17 3 2 0 1 19 3");
        x.readTree();
        Check.due("counts after a wrong text", counts(x), "5 4 1 1 17 3 2 0 1 19 0");
    }
}
