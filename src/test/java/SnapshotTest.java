/** Promises 19 save and 20 restore. */
final class SnapshotTest {
    private static final String TREE = "l0s(=0+1,=1+1,a2~2+1,p2(a1~3+1,a9~4+1,!x0))";

    public static void main(String[] args) {
        withoutTree();
        everyStateIsRestored();
        restoredTicksGoOnAlike();
        resultsAreRestored();
        theSnapshotIsKeptAndReplaced();
        anotherTreeDiscardsIt();
        textsAreNotPartOfIt();
        Check.end();
    }

    private static void withoutTree() {
        BehaviorRunner x = new BehaviorRunner();
        Check.due("save", x.save(), Check.NO_TREE);
        Check.due("restore", x.restore(), Check.NONE);
        Check.read(x, "s(a0,a0)");
        Check.due("restore without a snapshot", x.restore(), Check.NONE);
        Check.due("save", x.save(), 3);
        Check.due("restore", x.restore(), 3);
    }

    private static void everyStateIsRestored() {
        for (int ticks = 0; ticks < 12; ticks++) {
            String before = Check.state(afterShortTicks(ticks));
            BehaviorRunner x = afterShortTicks(ticks);
            Check.due("save", x.save(), 10);
            Check.due("state after save", Check.state(x), before);
            x.tick(3);
            x.run(4);
            x.set(7, -1);
            x.set(1, 99);
            x.abort();
            x.tick(1);
            Check.due("restore", x.restore(), 10);
            Check.due("state after restore", Check.state(x), before);
        }
    }

    private static BehaviorRunner afterShortTicks(int ticks) {
        BehaviorRunner x = Check.with(TREE);
        for (int i = 0; i < ticks; i++) {
            x.tick(i % 4 + 1);
        }
        x.set(7, ticks);
        return x;
    }

    private static void restoredTicksGoOnAlike() {
        BehaviorRunner x = Check.with(TREE);
        x.tick(99);
        x.tick(2);
        x.save();
        x.foresee();
        x.ticksToGo();
        x.run(9);
        String after = Check.state(x);
        x.tick(2);
        x.restore();
        Check.due("pending", x.pending(), 4);
        Check.due("underWay(1)", x.underWay(1), 1);
        x.run(9);
        Check.due("state after the same calls", Check.state(x), after);
    }

    private static void resultsAreRestored() {
        BehaviorRunner x = Check.with("p2(a0,a1)");
        x.tick(9);
        x.save();
        x.abort();
        x.tick(1);
        x.restore();
        Check.due("a child that succeeded is not visited again", x.tick(2), Check.SUCCESS);
        Check.due("visits", Check.nodes(x, 9), "2 1 2");
        BehaviorRunner y = Check.with("!a0");
        y.tick(9);
        y.save();
        y.tick(9);
        y.restore();
        Check.due("ticks with failure", y.count(3), 1);
        Check.due("failures of node 0", y.node(0, 7), 1);
    }

    private static void theSnapshotIsKeptAndReplaced() {
        BehaviorRunner x = Check.with("s(=0+1,a9)");
        x.tick(9);
        x.save();
        x.abort();
        x.restore();
        Check.due("state of node 2", x.node(2, 3), 1);
        x.abort();
        x.restore();
        Check.due("state of node 2 again", x.node(2, 3), 1);
        Check.due("trace", Check.trace(x), "1:2 2:1 0:1");
        x.abort();
        x.tick(9);
        x.save();
        x.set(0, 50);
        x.restore();
        Check.due("value of the later snapshot", x.value(-1, 0), 2);
    }

    private static void anotherTreeDiscardsIt() {
        BehaviorRunner x = Check.with("a5");
        x.tick(1);
        x.save();
        Check.due("a wrong text", Check.read(x, "a"), -2001);
        x.abort();
        Check.due("restore after a wrong text", x.restore(), 1);
        Check.due("state", x.node(0, 3), 1);
        Check.due("another tree", Check.read(x, "a5"), 1);
        Check.due("restore after another tree", x.restore(), Check.NONE);
        Check.due("state of the other tree", x.node(0, 3), 0);
        Check.due("save of the other tree", x.save(), 1);
        Check.due("restore of the other tree", x.restore(), 1);
    }

    private static void textsAreNotPartOfIt() {
        BehaviorRunner x = Check.with("a5");
        x.append(33, 2);
        x.save();
        x.append(33, 2);
        x.write();
        x.restore();
        Check.due("characters of the text", x.count(10), 4);
        Check.due("written text", Check.written(x), "a5");
    }
}
