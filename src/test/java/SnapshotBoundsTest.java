/** The boundary cases of promises 19 save and 20 restore. */
final class SnapshotBoundsTest {
    private static final String[] TREES = {"a3~0+1", "x2~0+1", "s(a1,=0+1,a2,x1)", "f(x1,a2)", "S(?0<3,r3a1,=0+1,a9)", "F(?0>3,t3x1,!=0+1,x9)",
        "p2(a0,x1,a2,a9~0+1)", "!r4a0", "t4x1", "g0<2s(=0+1,a3~0+1)", "w3a9~0+1", "l0s(=0+99,a1~0-9)", "r3p2(a1,x0,a2)", "w4l1s(=1+5,w2a1)"};

    public static void main(String[] args) {
        saveWithoutATree();
        restoreWithoutASnapshot();
        theNumberOfNodes();
        everyTreeAtEveryTime();
        theSuspendedTick();
        noSuspendedTick();
        theGlobalValues();
        localValues();
        theTrace();
        theCounts();
        anIdleTree();
        theSnapshotIsReplaced();
        theSnapshotIsKept();
        anotherTreeDiscardsIt();
        aWrongTextKeepsIt();
        lookingAheadKeepsIt();
        Check.end();
    }

    private static void saveWithoutATree() {
        Check.sentence("save: Returns the number of nodes; NO_TREE.");
        BehaviorRunner x = new BehaviorRunner();
        Check.due("save", x.save(), Check.NO_TREE);
        Check.due("restore after it", x.restore(), Check.NONE);
        Check.read(x, "a");
        Check.due("save after a wrong text", x.save(), Check.NO_TREE);
        Check.read(x, "a0");
        Check.due("restore", x.restore(), Check.NONE);
        Check.due("save", x.save(), 1);
    }

    private static void restoreWithoutASnapshot() {
        Check.sentence("restore: NONE if there is no snapshot");
        BehaviorRunner x = new BehaviorRunner();
        Check.due("without a tree", x.restore(), Check.NONE);
        Check.read(x, "!a1");
        Check.due("without a snapshot", x.restore(), Check.NONE);
        x.set(0, 5);
        x.tick(1);
        Check.due("in a tick", x.restore(), Check.NONE);
        Check.due("nothing has changed", x.value(-1, 0) * 100 + x.pending() * 10 + x.count(4), 511);
        x.foresee();
        x.ticksToGo();
        Check.due("foresee and ticksToGo save nothing", x.restore(), Check.NONE);
    }

    private static void theNumberOfNodes() {
        Check.sentence("Returns the number of nodes");
        for (int children = 1; children <= 22; children++) {
            BehaviorRunner x = Check.with("s(" + Check.list("a0", children) + ")");
            Check.due("save", x.save(), children + 1);
            Check.due("restore", x.restore(), children + 1);
        }
        BehaviorRunner x = Check.with("p9(" + Check.list("!a9", 11) + ",a9)");
        x.tick(99);
        Check.due("save of 24", x.save(), 24);
        x.abort();
        Check.due("restore of 24", x.restore(), 24);
        Check.due("states", Check.nodes(x, 3), "1 1 1 1 1 1 1 1 1 1 1 1 1 1 1 1 1 1 1 1 1 1 1 1");
        Check.due("aborted", x.count(5), 0);
    }

    private static void everyTreeAtEveryTime() {
        Check.sentence("Saves the state of the tree, a suspended tick included");
        for (String text : TREES) {
            for (int calls = 0; calls <= 12; calls++) {
                String at = text + " after " + calls;
                BehaviorRunner x = used(text, calls);
                x.save();
                x.run(3);
                x.tick(1);
                x.abort();
                x.set(0, 1);
                x.run(9);
                x.tick(2);
                Check.due("restore of " + at, x.restore(), x.count(0));
                Check.due("state of " + at, Check.state(x), Check.state(used(text, calls)));
                BehaviorRunner y = used(text, calls);
                y.save();
                y.run(9);
                y.restore();
                BehaviorRunner z = used(text, calls);
                for (int i = 0; i < 8; i++) {
                    Check.due("tick " + i + " of " + at, y.tick(i % 3 + 1), z.tick(i % 3 + 1));
                    y.save();
                    y.run(i + 1);
                    y.restore();
                }
                Check.due("state then of " + at, Check.state(y), Check.state(z));
            }
        }
    }

    private static BehaviorRunner used(String text, int calls) {
        BehaviorRunner x = Check.with(text);
        for (int i = 0; i < calls; i++) {
            x.tick(i % 4 + 1);
        }
        return x;
    }

    private static void theSuspendedTick() {
        Check.sentence("a suspended tick included");
        for (int units = 1; units <= 9; units++) {
            BehaviorRunner x = Check.with("!!!!!!!!!a0");
            x.tick(units);
            x.save();
            Check.due("the rest", x.tick(10 - units), Check.FAILURE);
            x.restore();
            Check.due("pending", x.pending(), units);
            Check.due("the last one under way", x.underWay(units - 1), units - 1);
            Check.due("behind it", x.underWay(units), Check.NONE);
            Check.due("foresee", x.foresee(), Check.FAILURE);
            Check.due("the rest once more", x.tick(10 - units), Check.FAILURE);
            Check.due("ticks", x.count(1), 1);
            x.restore();
            Check.due("abort of the restored one", x.abort(), units);
        }
    }

    private static void noSuspendedTick() {
        Check.sentence("Restores the snapshot");
        BehaviorRunner x = Check.after("!a1", 1);
        x.save();
        x.tick(1);
        x.restore();
        Check.due("pending", x.pending(), Check.NONE);
        Check.due("underWay", x.underWay(0), Check.NONE);
        Check.due("suspensions", x.count(8), 0);
        Check.due("the next tick", x.tick(2), Check.FAILURE);
    }

    private static void theGlobalValues() {
        Check.sentence("the global values");
        BehaviorRunner x = Check.with("=0+1");
        int[] values = {-999, 999, 0, 1, -1, 500, 998, -998};
        for (int key = 0; key <= 7; key++) {
            x.set(key, values[key]);
        }
        x.save();
        for (int key = 0; key <= 7; key++) {
            x.set(key, 7);
        }
        x.restore();
        Check.due("values", Check.globals(x), "-999 999 0 1 -1 500 998 -998");
        Check.due("the previous value", x.set(7, 0), -998);
    }

    private static void localValues() {
        Check.sentence("Saves the state of the tree");
        BehaviorRunner x = Check.with("s(l0=0-9,l7s(=7+8,a2),l0a0)");
        x.tick(99);
        x.save();
        x.run(9);
        x.tick(1);
        x.tick(1);
        Check.due("at the beginning of the next run", x.value(2, 0), 0);
        x.restore();
        Check.due("an idle scope and a running one", Check.nodes(x, 11), "0 -9 0 8 0 0 0 0 0");
    }

    private static void theTrace() {
        Check.sentence("the trace");
        for (int ticks : new int[] {0, 1, 28, 29, 30, 31, 59, 60, 61}) {
            for (int more : new int[] {1, 2, 29, 30, 31}) {
                BehaviorRunner x = Check.with("!a0");
                BehaviorRunner y = Check.with("!a0");
                for (int i = 0; i < ticks; i++) {
                    x.tick(1);
                    y.tick(1);
                }
                x.save();
                for (int i = 0; i < more; i++) {
                    x.tick(2);
                }
                x.abort();
                x.restore();
                Check.due("entries after " + ticks, x.count(9), Math.min(30, ticks / 2 * 2));
                Check.due("trace after " + ticks, Check.trace(x), Check.trace(y));
                x.tick(1);
                y.tick(1);
                Check.due("trace after one more", Check.trace(x), Check.trace(y));
            }
        }
    }

    private static void theCounts() {
        Check.sentence("and all counts");
        BehaviorRunner x = Check.with("S(?0=0,a1~1+1,!?1=9)");
        x.tick(9);
        x.tick(9);
        x.tick(9);
        x.set(0, 1);
        x.tick(9);
        x.tick(1);
        x.abort();
        x.tick(1);
        x.save();
        String counts = counts(x);
        Check.due("counts", counts, "5 4 1 1 15 2 2 1 2 15");
        x.run(3);
        x.set(0, 0);
        x.run(5);
        x.tick(2);
        x.abort();
        x.restore();
        Check.due("counts after restore", counts(x), counts);
    }

    private static String counts(BehaviorRunner x) {
        StringBuilder text = new StringBuilder();
        for (int what = 0; what <= 9; what++) {
            text.append(what == 0 ? "" : " ").append(x.count(what));
        }
        return text.toString();
    }

    private static void anIdleTree() {
        Check.sentence("Saves the state of the tree");
        for (String text : TREES) {
            BehaviorRunner x = Check.with(text);
            x.save();
            x.run(20);
            x.tick(1);
            x.set(3, 3);
            x.restore();
            Check.due("state of " + text, Check.state(x), Check.state(Check.with(text)));
        }
    }

    private static void theSnapshotIsReplaced() {
        Check.sentence("replacing an earlier snapshot");
        BehaviorRunner x = Check.with("a9");
        for (int i = 1; i <= 9; i++) {
            x.tick(1);
            x.set(0, i);
            Check.due("save", x.save(), 1);
        }
        x.abort();
        x.set(0, 0);
        x.restore();
        Check.due("value of the latest", x.value(-1, 0), 9);
        Check.due("the action is at its last step", x.tick(1), Check.SUCCESS);
        x.restore();
        x.tick(1);
        x.save();
        x.restore();
        Check.due("saved after restore", x.node(0, 6), 1);
    }

    private static void theSnapshotIsKept() {
        Check.sentence("Restores the snapshot, which is kept.");
        BehaviorRunner x = Check.with("s(=0+1,a2)");
        x.tick(2);
        x.save();
        for (int i = 0; i < 20; i++) {
            x.run(i % 4 + 1);
            x.tick(1);
            x.set(0, i);
            Check.due("restore", x.restore(), 3);
            Check.due("value", x.value(-1, 0), 1);
            Check.due("pending", x.pending(), 2);
            Check.due("ticks", x.count(1), 0);
        }
        Check.due("restore twice in a row", x.restore(), 3);
        Check.due("pending", x.pending(), 2);
    }

    private static void anotherTreeDiscardsIt() {
        Check.sentence("A snapshot is discarded when another tree is read without an error.");
        for (String text : new String[] {"s(a1,a1)", "s(a1,a2)", "a0", "s(a1,a1,a1)"}) {
            BehaviorRunner x = Check.after("s(a1,a1)", 1);
            x.save();
            Check.read(x, text);
            int nodes = x.count(0);
            Check.due("restore after " + text, x.restore(), Check.NONE);
            Check.due("states", x.count(7), 0);
            x.tick(9);
            Check.due("restore after a tick", x.restore(), Check.NONE);
            Check.due("save", x.save(), nodes);
            Check.due("restore after save", x.restore(), nodes);
            Check.read(x, "s(a1,a1)");
            Check.due("restore after the first text again", x.restore(), Check.NONE);
        }
    }

    private static void aWrongTextKeepsIt() {
        Check.sentence("when another tree is read without an error");
        BehaviorRunner x = Check.after("s(a1,a1)", 1);
        x.save();
        for (String text : new String[] {"", "s(a1,a1", "q", "s(" + Check.list("!a0", 12) + ")", "a0a0"}) {
            x.abort();
            Check.read(x, text);
            Check.due("restore after " + text, x.restore(), 3);
            Check.due("states after " + text, Check.nodes(x, 3), "1 1 0");
        }
        x.append('a', 1);
        Check.due("restore with a text that is not read", x.restore(), 3);
    }

    private static void lookingAheadKeepsIt() {
        Check.sentence("Restores the snapshot");
        BehaviorRunner x = Check.after("s(=0+1,a3)", 2);
        x.save();
        x.run(1);
        x.foresee();
        x.ticksToGo();
        x.restore();
        Check.due("state", Check.state(x), Check.state(Check.after("s(=0+1,a3)", 2)));
    }
}
