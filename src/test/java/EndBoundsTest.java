/** The boundary cases of ends and aborts: every way out of a run, what is done once, in order, or not at all. */
final class EndBoundsTest {
    /** A node above an action whose end adds 1 to the value of key 1. */
    private static final String[] ABOVE = {"s(%)", "f(%)", "S(%)", "F(%)", "p1(%)", "!%", "r1%", "t9%", "g1=0%", "w9%", "l5%",
        "s(a0,%,a0~1+9)", "f(x0,%,a0~1+9)", "S(a0,%,a0~1+9)", "F(x0,%,a0~1+9)", "p2(a0,%,x0)", "!l5w9r9g1=0t1%"};

    public static void main(String[] args) {
        endsOfEveryNumber();
        endsComeAfterEffects();
        endsAreDoneOnEveryWayOut();
        abortedByACall();
        abortedInASuspendedTick();
        endsAreDoneOnce();
        endsNotDone();
        endsOfATreeBefore();
        noEndsByRestore();
        noEndsByLookingAhead();
        abortsInDescendingOrder();
        abortsHaveNoResult();
        abortsOfIdleNodes();
        endsAndConditions();
        endsInScopes();
        endsHaveNoEntry();
        Check.end();
    }

    private static void endsOfEveryNumber() {
        Check.sentence("An action, failing or not, can have an end, which is an effect. When its run ends, ..., its end is done");
        for (char letter : new char[] {'a', 'x'}) {
            for (int n = 0; n <= 9; n++) {
                BehaviorRunner x = Check.after(letter + "" + n + "~3-4", n);
                Check.due("value before the end of " + letter + n, x.value(-1, 3), 0);
                Check.due("ends before the end of " + letter + n, x.count(6), 0);
                x.tick(1);
                Check.due("value after the end of " + letter + n, x.value(-1, 3), -4);
                Check.due("ends after the end of " + letter + n, x.count(6), 1);
            }
        }
    }

    private static void endsComeAfterEffects() {
        Check.sentence("its end is done, after its effect, if this was done");
        for (String letter : new String[] {"a", "x"}) {
            Check.due("both", Check.after(letter + "00:7~0+2", 1).value(-1, 0), 9);
            Check.due("both", Check.after(letter + "00+7~0:2", 1).value(-1, 0), 2);
            BehaviorRunner x = Check.after(letter + "10:7~0+2", 1);
            Check.due("abort before the effect", x.abort(), 1);
            Check.due("the end alone", x.value(-1, 0), 2);
        }
    }

    private static void endsAreDoneOnEveryWayOut() {
        Check.sentence("When its run ends, also by an abort, its end is done");
        wayOut("g0=0%", 2);
        wayOut("S(?0=0,%)", 2);
        wayOut("S(f(?0=0,x0),a0,%)", 2);
        wayOut("F(?0=1,%)", 2);
        wayOut("w1%", 2);
        wayOut("!w1%", 2);
        wayOut("p1(%,a0)", 1);
        wayOut("p2(%,x0)", 1);
        wayOut("p0(%)", 1);
        wayOut("p1(%,a1)", 2);
        wayOut("p2(%,x1)", 2);
    }

    /** Some ticks, before the second of which key 0 becomes 1; the last one aborts the action. */
    private static void wayOut(String way, int ticks) {
        for (String above : ABOVE) {
            String text = way.replace("%", above.replace("%", "a9~1+1"));
            BehaviorRunner x = Check.with(text);
            for (int i = 0; i < ticks; i++) {
                Check.due("the value before the end in " + text, x.value(-1, 1), 0);
                x.tick(99);
                x.set(0, 1);
            }
            Check.due("the value by the end in " + text, x.value(-1, 1), 1);
            Check.due("ends in " + text, x.count(6), 1);
            Check.due("running nodes of " + text, x.count(7), 0);
        }
    }

    private static void abortedByACall() {
        Check.sentence("Aborts node 0 if it is running, with all running nodes below it");
        for (String above : ABOVE) {
            String text = above.replace("%", "a9~1+1");
            BehaviorRunner x = Check.after(text, 1);
            int running = x.count(7);
            Check.due("abort of " + text, x.abort(), running);
            Check.due("the value by the end in " + text, x.value(-1, 1), 1);
            Check.due("ends in " + text, x.count(6), 1);
            Check.due("running nodes of " + text, x.count(7), 0);
        }
    }

    private static void abortedInASuspendedTick() {
        Check.sentence("those of visits that have not ended included");
        for (int budget = 1; budget <= 4; budget++) {
            BehaviorRunner y = Check.after("p2(a9~1+1,s(a9~1+2,a0),a9~1+4)", 1);
            Check.due("tick", y.tick(budget), Check.SUSPENDED);
            Check.due("abort", y.abort(), 5);
            Check.due("ends", y.value(-1, 1), 7);
        }
        BehaviorRunner z = Check.with("p2(a9~1+1,s(a9~1+2,a0),a9~1+4)");
        int[] ends = {0, 1, 1, 3};
        int[] nodes = {1, 2, 3, 4};
        for (int budget = 1; budget <= 4; budget++) {
            z.set(1, 0);
            Check.due("first tick", z.tick(budget), Check.SUSPENDED);
            Check.due("abort", z.abort(), nodes[budget - 1]);
            Check.due("ends of those that have begun", z.value(-1, 1), ends[budget - 1]);
        }
    }

    private static void endsAreDoneOnce() {
        Check.sentence("When its run ends, ..., its end is done");
        BehaviorRunner x = Check.after("s(a0~1+1,x0)", 1);
        Check.due("of an action that succeeded before the failure", x.value(-1, 1), 1);
        BehaviorRunner y = Check.after("s(a0~1+1,a9)", 3);
        y.abort();
        Check.due("of an action that succeeded before the abort", y.value(-1, 1), 1);
        Check.due("abort again", y.abort(), 0);
        Check.due("ends", y.count(6), 1);
        BehaviorRunner z = Check.after("r3a0~1+1", 3);
        Check.due("of each run", z.value(-1, 1), 3);
        BehaviorRunner w = Check.after("p1(x0~1+1,a1~1+2)", 2);
        Check.due("of a child that is not visited again", w.value(-1, 1), 3);
    }

    private static void endsNotDone() {
        Check.sentence("When its run ends, ..., its end is done");
        BehaviorRunner x = Check.after("s(a9,a0~1+1)", 3);
        x.abort();
        Check.due("of an action that has not begun", x.value(-1, 1), 0);
        BehaviorRunner y = Check.with("w0a0~1+1");
        Check.due("tick", y.tick(9), Check.FAILURE);
        Check.due("below a time limit of 0", y.count(6), 0);
        BehaviorRunner z = Check.with("s(a0,a0~1+1)");
        z.tick(2);
        z.abort();
        Check.due("of the node that would have been next", z.value(-1, 1), 0);
    }

    private static void endsOfATreeBefore() {
        Check.sentence("Ends of the tree before are not done.");
        BehaviorRunner x = Check.with("p2(a9~1+1,s(a9~2+1,a0))");
        x.tick(99);
        x.tick(2);
        Check.read(x, "a0~3+1");
        Check.due("values", Check.globals(x), "0 0 0 0 0 0 0 0");
        Check.due("abort of the new tree", x.abort(), 0);
        Check.due("tick of the new tree", x.tick(1), Check.SUCCESS);
        Check.due("values", Check.globals(x), "0 0 0 1 0 0 0 0");
    }

    private static void noEndsByRestore() {
        Check.sentence("Restores the snapshot");
        BehaviorRunner x = Check.with("a9~1+1");
        x.save();
        x.tick(1);
        x.restore();
        Check.due("value after restore", x.value(-1, 1), 0);
        Check.due("ends after restore", x.count(6), 0);
        Check.due("abort after restore", x.abort(), 0);
    }

    private static void noEndsByLookingAhead() {
        Check.sentence("Nothing changes.");
        BehaviorRunner x = Check.with("a0~1+1");
        Check.due("foresee", x.foresee(), Check.SUCCESS);
        Check.due("ticksToGo", x.ticksToGo(), 1);
        Check.due("value", x.value(-1, 1), 0);
        Check.due("ends", x.count(6), 0);
    }

    private static void abortsInDescendingOrder() {
        Check.sentence("its children that are running are aborted in descending order; then its run ends");
        BehaviorRunner x = Check.after("p3(a9~1:1,a9~1:2,a9~1:3)", 1);
        x.abort();
        Check.due("the last end", x.value(-1, 1), 1);
        Check.due("trace", Check.trace(x), "1:1 2:1 3:1 0:1 3:4 2:4 1:4 0:4");
        BehaviorRunner y = Check.after("p3(p2(a9,a0,a9),!!a9,a0,p2(a9,!a9))", 1);
        int entries = y.count(9);
        Check.due("abort", y.abort(), 11);
        StringBuilder aborts = new StringBuilder();
        for (int i = y.count(9) - entries - 1; i >= 0; i--) {
            aborts.append(y.trace(i, 0)).append(' ');
        }
        Check.due("order", aborts.toString(), "12 11 10 9 7 6 5 4 2 1 0 ");
        BehaviorRunner z = Check.after("p0(" + Check.list("a9~1+1", 9) + ")", 1);
        Check.due("trace", Check.trace(z), "1:1 2:1 3:1 4:1 5:1 6:1 7:1 8:1 9:1 9:4 8:4 7:4 6:4 5:4 4:4 3:4 2:4 1:4 0:2");
        Check.due("ends", z.value(-1, 1), 9);
    }

    private static void abortsHaveNoResult() {
        Check.sentence("then its run ends, without a result");
        for (String above : ABOVE) {
            String text = "g0=0" + above.replace("%", "a9");
            BehaviorRunner x = Check.after(text, 1);
            x.set(0, 1);
            Check.due("tick of " + text, x.tick(1), Check.FAILURE);
            Check.due("aborted of node 1 of " + text, x.node(1, 8), 1);
            Check.due("results of node 1 of " + text, x.node(1, 6) + x.node(1, 7), 0);
            Check.due("state of node 1 of " + text, x.node(1, 3), 0);
            Check.due("results of node 0 of " + text, x.node(0, 6) * 100 + x.node(0, 7) * 10 + x.node(0, 8), 10);
        }
        BehaviorRunner y = Check.after("a9", 1);
        y.abort();
        Check.due("results by a call", y.count(2) + y.count(3) + y.node(0, 6) + y.node(0, 7), 0);
    }

    private static void abortsOfIdleNodes() {
        Check.sentence("its children that are running are aborted");
        BehaviorRunner x = Check.after("p2(a0~1+1,a9~1+1,x0~1+1)", 1);
        Check.due("abort", x.abort(), 2);
        Check.due("aborted", Check.nodes(x, 8), "1 0 1 0");
        Check.due("ends", x.value(-1, 1), 3);
    }

    private static void endsAndConditions() {
        Check.sentence("if its condition is not fulfilled, its child is aborted if it is running, and it fails");
        BehaviorRunner x = Check.after("g0=0a9~0:0", 1);
        x.set(0, 1);
        Check.due("an end that would fulfil the condition", x.tick(9), Check.FAILURE);
        Check.due("the value", x.value(-1, 0), 0);
        Check.due("the next tick", x.tick(9), Check.RUNNING);
        BehaviorRunner y = Check.after("S(?0=0,a9~0:0)", 1);
        y.set(0, 1);
        Check.due("an end that would let a child succeed", y.tick(9), Check.FAILURE);
        Check.due("the next tick", y.tick(9), Check.RUNNING);
    }

    private static void endsInScopes() {
        Check.sentence("Both are meant for the node to which they belong.");
        BehaviorRunner x = Check.after("l1a9~1+3", 2);
        x.abort();
        Check.due("local value after an abort", x.node(0, 11), 3);
        Check.due("global value after an abort", x.value(-1, 1), 0);
        BehaviorRunner y = Check.after("s(l1a0~1+3,a0~1+4)", 1);
        Check.due("local value", y.node(1, 11), 3);
        Check.due("global value", y.value(-1, 1), 4);
        BehaviorRunner z = Check.after("l1l1l2x0~1+3", 1);
        Check.due("local values", Check.nodes(z, 11), "0 3 0 0");
    }

    private static void endsHaveNoEntry() {
        Check.sentence("An end that is done has no entry.");
        Check.due("after a success", Check.trace(Check.after("a0~1+1", 1)), "0:2");
        Check.due("after a failure", Check.trace(Check.after("x0~1+1", 1)), "0:3");
        BehaviorRunner x = Check.after("a1~1+1", 1);
        x.abort();
        Check.due("after an abort", Check.trace(x), "0:1 0:4");
    }
}
