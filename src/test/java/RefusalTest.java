/** "A call that returns an error code changes nothing": every error and every NONE, in several states. */
final class RefusalTest {
    private interface Call {
        int on(BehaviorRunner x);
    }

    private static final int LEAST = Integer.MIN_VALUE;
    private static final int GREATEST = Integer.MAX_VALUE;
    private static final int STATES = 6;

    public static void main(String[] args) {
        constants();
        badArguments();
        fullText();
        noTree();
        noSuchObject();
        badArgumentsComeFirst();
        noneComesFirst();
        nothingIsThrown();
        Check.end();
    }

    /** A runner without a tree, idle at first, idle later, running, in a tick, and in a tick with a snapshot and texts. */
    private static BehaviorRunner state(int state) {
        BehaviorRunner x = new BehaviorRunner();
        x.set(7, -999);
        if (state == 0) {
            x.append('a', 1);
            return x;
        }
        Check.read(x, "l0s(=0+1,a1~1+1,p1(a1,x0))");
        if (state == 2) {
            x.run(9);
        }
        if (state >= 3) {
            x.run(1);
        }
        if (state >= 4) {
            x.tick(2);
        }
        if (state == 5) {
            x.save();
            x.tick(1);
            x.write();
        }
        x.append('!', 3);
        return x;
    }

    private static void changesNothing(String name, Call call, int due) {
        for (int state = 0; state < STATES; state++) {
            changesNothing(name, call, due, state);
        }
    }

    private static void changesNothing(String name, Call call, int due, int state) {
        String what = name + " in state " + state;
        BehaviorRunner x = state(state);
        Check.due(what, call.on(x), due);
        BehaviorRunner y = state(state);
        Check.due("state after " + what, Check.state(x), Check.state(y));
        Check.due("written after " + what, Check.written(x), Check.written(y));
        Check.due("length after " + what, x.count(10), y.count(10));
        Check.due("readTree after " + what, x.readTree(), y.readTree());
        Check.due("restore after " + what, x.restore(), y.restore());
        Check.due("tick after " + what, x.tick(3), y.tick(3));
        Check.due("the end after " + what, x.run(50), y.run(50));
        Check.due("ticks after " + what, x.count(1), y.count(1));
    }

    private static void constants() {
        Check.sentence("The constants");
        Check.due("NONE", BehaviorRunner.NONE, -1001);
        Check.due("BAD_ARGUMENT", BehaviorRunner.BAD_ARGUMENT, -1002);
        Check.due("FULL", BehaviorRunner.FULL, -1003);
        Check.due("NO_TREE", BehaviorRunner.NO_TREE, -1004);
        Check.due("SUSPENDED", BehaviorRunner.SUSPENDED, 5);
    }

    private static void badArguments() {
        Check.sentence("A call that returns an error code changes nothing");
        int due = Check.BAD_ARGUMENT;
        changesNothing("append(-1, 1)", x -> x.append(-1, 1), due);
        changesNothing("append(128, 1)", x -> x.append(128, 1), due);
        changesNothing("append(97, 0)", x -> x.append(97, 0), due);
        changesNothing("append(97, 71)", x -> x.append(97, 71), due);
        changesNothing("set(-1, 0)", x -> x.set(-1, 0), due);
        changesNothing("set(8, 0)", x -> x.set(8, 0), due);
        changesNothing("set(7, 1000)", x -> x.set(7, 1000), due);
        changesNothing("set(7, -1000)", x -> x.set(7, -1000), due);
        changesNothing("value(-1, 8)", x -> x.value(-1, 8), due);
        changesNothing("value(0, -1)", x -> x.value(0, -1), due);
        changesNothing("tick(0)", x -> x.tick(0), due);
        changesNothing("tick(1000)", x -> x.tick(1000), due);
        changesNothing("run(0)", x -> x.run(0), due);
        changesNothing("run(51)", x -> x.run(51), due);
        changesNothing("count(-1)", x -> x.count(-1), due);
        changesNothing("count(11)", x -> x.count(11), due);
        for (int state = 1; state < STATES; state++) {
            changesNothing("node(0, 12)", x -> x.node(0, 12), due, state);
            changesNothing("node(6, -1)", x -> x.node(6, -1), due, state);
        }
        for (int state = 2; state < STATES; state++) {
            changesNothing("trace(0, 2)", x -> x.trace(0, 2), due, state);
            changesNothing("trace(0, -1)", x -> x.trace(0, -1), due, state);
        }
    }

    private static void fullText() {
        Check.sentence("A call that returns an error code changes nothing");
        changesNothing("append(97, 70)", x -> x.append(97, 70), Check.FULL);
        for (int state = 1; state < STATES; state++) {
            changesNothing("append(97, 68)", x -> x.append(97, 68), Check.FULL, state);
        }
    }

    private static void noTree() {
        Check.sentence("NO_TREE: There is no tree.");
        int due = Check.NO_TREE;
        changesNothing("tick(1)", x -> x.tick(1), due, 0);
        changesNothing("tick(999)", x -> x.tick(999), due, 0);
        changesNothing("run(1)", x -> x.run(1), due, 0);
        changesNothing("run(50)", x -> x.run(50), due, 0);
        changesNothing("foresee()", x -> x.foresee(), due, 0);
        changesNothing("ticksToGo()", x -> x.ticksToGo(), due, 0);
        changesNothing("abort()", x -> x.abort(), due, 0);
        changesNothing("write()", x -> x.write(), due, 0);
        changesNothing("save()", x -> x.save(), due, 0);
    }

    private static void noSuchObject() {
        Check.sentence("NONE: There is no such object.");
        int due = Check.NONE;
        changesNothing("value(7, 0)", x -> x.value(7, 0), due);
        changesNothing("value(-2, 0)", x -> x.value(-2, 0), due);
        changesNothing("node(7, 0)", x -> x.node(7, 0), due);
        changesNothing("node(-1, 0)", x -> x.node(-1, 0), due);
        changesNothing("child(0, 1)", x -> x.child(0, 1), due);
        changesNothing("child(1, 3)", x -> x.child(1, 3), due);
        changesNothing("child(7, 0)", x -> x.child(7, 0), due);
        changesNothing("underWay(-1)", x -> x.underWay(-1), due);
        changesNothing("underWay(9)", x -> x.underWay(9), due);
        changesNothing("trace(30, 0)", x -> x.trace(30, 0), due);
        changesNothing("trace(-1, 1)", x -> x.trace(-1, 1), due);
        changesNothing("written(-1)", x -> x.written(-1), due);
        changesNothing("written(70)", x -> x.written(70), due);
        for (int state = 0; state < 4; state++) {
            changesNothing("pending()", x -> x.pending(), due, state);
            changesNothing("underWay(0)", x -> x.underWay(0), due, state);
        }
        for (int state = 0; state < 5; state++) {
            changesNothing("restore()", x -> x.restore(), due, state);
            changesNothing("written(0)", x -> x.written(0), due, state);
        }
    }

    private static void badArgumentsComeFirst() {
        Check.sentence("If several errors apply, the one that is listed first at the method is returned.");
        int due = Check.BAD_ARGUMENT;
        changesNothing("append(128, 70)", x -> x.append(128, 70), due);
        changesNothing("append(97, 71)", x -> x.append(97, 71), due);
        changesNothing("value(99, 8)", x -> x.value(99, 8), due);
        changesNothing("value(-2, -1)", x -> x.value(-2, -1), due);
        changesNothing("tick(0)", x -> x.tick(0), due, 0);
        changesNothing("tick(1000)", x -> x.tick(1000), due, 0);
        changesNothing("run(0)", x -> x.run(0), due, 0);
        changesNothing("run(51)", x -> x.run(51), due, 0);
    }

    private static void noneComesFirst() {
        Check.sentence("If several errors apply, the one that is listed first at the method is returned.");
        int due = Check.NONE;
        changesNothing("node(7, 12)", x -> x.node(7, 12), due);
        changesNothing("node(-1, -1)", x -> x.node(-1, -1), due);
        changesNothing("trace(30, 2)", x -> x.trace(30, 2), due);
        changesNothing("trace(-1, -1)", x -> x.trace(-1, -1), due);
        changesNothing("node(0, 12) without a tree", x -> x.node(0, 12), due, 0);
        changesNothing("trace(0, 2) without entries", x -> x.trace(0, 2), due, 0);
    }

    /** Every method with arguments at and beyond all edges, at once and in any order, also after many calls. */
    private static void nothingIsThrown() {
        Check.sentence("No call may ever throw or fail to end, for any arguments in any state");
        int[] edges = {LEAST, LEAST + 1, -1001, -1000, -999, -2, -1, 0, 1, 2, 6, 7, 8, 9, 10, 11, 12, 23, 24, 29, 30, 50, 51,
            69, 70, 71, 127, 128, 999, 1000, GREATEST - 1, GREATEST};
        int answers = 0;
        for (int state = 0; state < STATES; state++) {
            BehaviorRunner x = state(state);
            for (int a : edges) {
                answers += one(x, a);
                for (int b : edges) {
                    answers += two(x, a, b);
                }
            }
        }
        Check.due("calls that came back", answers, STATES * edges.length * (12 + 6 * edges.length));
    }

    private static int one(BehaviorRunner x, int a) {
        int[] answers = {x.tick(a), x.run(a), x.underWay(a), x.count(a), x.written(a), x.pending(), x.foresee(), x.ticksToGo(),
            x.abort(), x.write(), x.save(), x.restore()};
        return answers.length;
    }

    private static int two(BehaviorRunner x, int a, int b) {
        int[] answers = {x.append(a, b), x.set(a, b), x.value(a, b), x.node(a, b), x.child(a, b), x.trace(a, b)};
        return answers.length;
    }
}
