/** Promises 6 tick, 7 run, 8 foresee, 9 ticksToGo and 10 abort. */
final class TickTest {
    public static void main(String[] args) {
        arguments();
        budgets();
        suspendedBeforeTheVisit();
        changesWhileSuspended();
        run();
        runFinishesTheSuspendedTick();
        foresee();
        ticksToGo();
        lookingAheadChangesNothing();
        abort();
        abortOfASuspendedTick();
        abortOfATickThatSkips();
        Check.end();
    }

    private static void arguments() {
        BehaviorRunner x = new BehaviorRunner();
        Check.due("tick(0) without a tree", x.tick(0), Check.BAD_ARGUMENT);
        Check.due("run(0) without a tree", x.run(0), Check.BAD_ARGUMENT);
        Check.due("tick(1) without a tree", x.tick(1), Check.NO_TREE);
        Check.due("run(1) without a tree", x.run(1), Check.NO_TREE);
        Check.read(x, "a9");
        String before = Check.state(x);
        Check.due("tick(0)", x.tick(0), Check.BAD_ARGUMENT);
        Check.due("tick(-1)", x.tick(-1), Check.BAD_ARGUMENT);
        Check.due("tick(1000)", x.tick(1000), Check.BAD_ARGUMENT);
        Check.due("tick(least)", x.tick(Integer.MIN_VALUE), Check.BAD_ARGUMENT);
        Check.due("tick(greatest)", x.tick(Integer.MAX_VALUE), Check.BAD_ARGUMENT);
        Check.due("run(0)", x.run(0), Check.BAD_ARGUMENT);
        Check.due("run(51)", x.run(51), Check.BAD_ARGUMENT);
        Check.due("run(least)", x.run(Integer.MIN_VALUE), Check.BAD_ARGUMENT);
        Check.due("run(greatest)", x.run(Integer.MAX_VALUE), Check.BAD_ARGUMENT);
        Check.due("state after errors", Check.state(x), before);
        Check.due("tick(1)", x.tick(1), Check.RUNNING);
        Check.due("tick(999)", x.tick(999), Check.RUNNING);
        Check.due("run(1)", x.run(1), Check.RUNNING);
        Check.due("run(50)", x.run(50), Check.SUCCESS);
    }

    private static void budgets() {
        BehaviorRunner x = Check.with("s(a0,!x0,a0)");
        Check.due("a budget that is just enough", x.tick(5), Check.SUCCESS);
        Check.due("suspensions", x.count(8), 0);
        Check.due("one too few", x.tick(4), Check.SUSPENDED);
        Check.due("pending", x.pending(), 4);
        Check.due("ticks so far", x.count(1), 1);
        Check.due("the rest", x.tick(1), Check.SUCCESS);
        Check.due("ticks then", x.count(1), 2);
        for (int i = 1; i <= 4; i++) {
            Check.due("unit " + i, x.tick(1), Check.SUSPENDED);
            Check.due("pending after unit " + i, x.pending(), i);
            Check.due("suspensions after unit " + i, x.count(8), 1 + i);
        }
        Check.due("unit 5", x.tick(1), Check.SUCCESS);
        Check.due("pending after the tick", x.pending(), Check.NONE);
        Check.due("visits", x.count(4), 15);
    }

    private static void suspendedBeforeTheVisit() {
        BehaviorRunner x = Check.with("s(g0=1a9,a0)");
        Check.due("tick", x.tick(2), Check.FAILURE);
        BehaviorRunner y = Check.with("f(g0=1a9,!=1:3,a0)");
        Check.due("tick", y.tick(2), Check.SUSPENDED);
        Check.due("the guard has failed already", y.node(1, 7), 1);
        Check.due("pending", y.pending(), 3);
        Check.due("tick", y.tick(2), Check.SUSPENDED);
        Check.due("the inversion has ended already", Check.trace(y), "1:3 4:2 3:3");
        Check.due("pending", y.pending(), 5);
        Check.due("value", y.value(-1, 1), 3);
        Check.due("tick", y.tick(1), Check.SUCCESS);
    }

    private static void changesWhileSuspended() {
        BehaviorRunner x = Check.with("S(?0=0,=1+1,?0=0)");
        Check.due("tick", x.tick(2), Check.SUSPENDED);
        x.set(0, 1);
        x.set(1, 5);
        Check.due("what was visited stays", x.tick(9), Check.FAILURE);
        Check.due("value", x.value(-1, 1), 6);
        Check.due("trace", Check.trace(x), "1:2 2:2 3:3 0:3");
        BehaviorRunner y = Check.with("S(?0=0,a9)");
        y.tick(9);
        y.tick(1);
        y.set(0, 1);
        Check.due("tick", y.tick(1), Check.FAILURE);
        Check.due("aborted", y.node(2, 8), 1);
        Check.due("running", y.count(7), 0);
    }

    private static void run() {
        BehaviorRunner x = Check.with("a3");
        Check.due("run(2)", x.run(2), Check.RUNNING);
        Check.due("ticks", x.count(1), 2);
        Check.due("run(50)", x.run(50), Check.SUCCESS);
        Check.due("ticks", x.count(1), 4);
        BehaviorRunner y = Check.with("!r9a9");
        Check.due("run(50)", y.run(50), Check.RUNNING);
        Check.due("ticks", y.count(1), 50);
        Check.due("run(40)", y.run(40), Check.FAILURE);
        Check.due("ticks", y.count(1), 90);
        Check.due("ticks with failure", y.count(3), 1);
        BehaviorRunner z = Check.with("x0");
        Check.due("run(5)", z.run(5), Check.FAILURE);
        Check.due("it ends with the first failure", z.count(1), 1);
    }

    private static void runFinishesTheSuspendedTick() {
        BehaviorRunner x = Check.with("s(a2,a1)");
        Check.due("tick(1)", x.tick(1), Check.SUSPENDED);
        Check.due("run(1)", x.run(1), Check.RUNNING);
        Check.due("ticks", x.count(1), 1);
        Check.due("pending", x.pending(), Check.NONE);
        x.tick(1);
        Check.due("run(2)", x.run(2), Check.RUNNING);
        Check.due("ticks", x.count(1), 3);
        x.tick(1);
        Check.due("run(50)", x.run(50), Check.SUCCESS);
        Check.due("ticks", x.count(1), 4);
        Check.due("suspensions", x.count(8), 3);
        Check.due("each visit is counted once", x.count(4), 9);
    }

    private static void foresee() {
        Check.due("foresee of a0", Check.with("a0").foresee(), Check.SUCCESS);
        Check.due("foresee of x0", Check.with("x0").foresee(), Check.FAILURE);
        Check.due("foresee of a1", Check.with("a1").foresee(), Check.RUNNING);
        BehaviorRunner x = Check.with("s(=0+1,f(?0>1,a2),!?1=5)");
        Check.due("foresee", x.foresee(), Check.RUNNING);
        Check.due("tick", x.tick(99), Check.RUNNING);
        x.set(0, 2);
        Check.due("foresee", x.foresee(), Check.RUNNING);
        x.tick(99);
        Check.due("foresee", x.foresee(), Check.SUCCESS);
        x.set(1, 5);
        Check.due("foresee", x.foresee(), Check.FAILURE);
        Check.due("tick", x.tick(1), Check.SUSPENDED);
        Check.due("foresee of the suspended tick", x.foresee(), Check.FAILURE);
        x.set(1, 4);
        Check.due("foresee of the suspended tick", x.foresee(), Check.SUCCESS);
        Check.due("tick", x.tick(99), Check.SUCCESS);
    }

    private static void ticksToGo() {
        Check.due("ticksToGo of a0", Check.with("a0").ticksToGo(), 1);
        Check.due("ticksToGo of x3", Check.with("x3").ticksToGo(), 4);
        Check.due("ticksToGo of r5a9", Check.with("r5a9").ticksToGo(), 50);
        Check.due("ticksToGo of r5s(a9,a0)", Check.with("r5s(a9,r2a0)").ticksToGo(), 0);
        Check.due("ticksToGo of s(r5a9,a1)", Check.with("s(r5a9,a1)").ticksToGo(), 0);
        Check.due("ticksToGo of an endless tree", Check.with("S(a1,a1)").ticksToGo(), 0);
        BehaviorRunner x = Check.with("s(a2,a1)");
        Check.due("ticksToGo", x.ticksToGo(), 4);
        x.tick(1);
        Check.due("ticksToGo with a suspended tick", x.ticksToGo(), 4);
        x.tick(9);
        Check.due("ticksToGo after it", x.ticksToGo(), 3);
        x.run(50);
        Check.due("ticksToGo after the end", x.ticksToGo(), 4);
        BehaviorRunner y = Check.with("s(a9,r5a9)");
        Check.due("ticksToGo of 59", y.ticksToGo(), 0);
        y.run(8);
        Check.due("ticksToGo of 51", y.ticksToGo(), 0);
        y.tick(1);
        Check.due("ticksToGo of 51, one suspended", y.ticksToGo(), 0);
        y.tick(9);
        Check.due("ticksToGo of 50", y.ticksToGo(), 50);
    }

    private static void lookingAheadChangesNothing() {
        for (int ticks = 0; ticks < 30; ticks++) {
            String before = Check.state(afterShortTicks(ticks));
            BehaviorRunner x = afterShortTicks(ticks);
            x.foresee();
            Check.due("state after foresee", Check.state(x), before);
            BehaviorRunner y = afterShortTicks(ticks);
            y.ticksToGo();
            Check.due("state after ticksToGo", Check.state(y), before);
        }
    }

    private static BehaviorRunner afterShortTicks(int ticks) {
        BehaviorRunner x = Check.with("l0s(=0+1,=1+1,a1~2+1,p2(a1~3+1,a9~4+1,!x0))");
        for (int i = 0; i < ticks; i++) {
            x.tick(i % 3 + 1);
        }
        return x;
    }

    private static void abort() {
        BehaviorRunner x = Check.with("s(=0:1,p2(a9~1+1,s(a9~2+1),a0))");
        Check.due("abort of an idle tree", x.abort(), 0);
        Check.due("trace after it", x.count(9), 0);
        x.tick(99);
        Check.due("abort", x.abort(), 5);
        Check.due("trace", Check.trace(x), "1:2 3:1 5:1 4:1 6:2 2:1 0:1 5:4 4:4 3:4 2:4 0:4");
        Check.due("aborted", Check.nodes(x, 8), "1 0 1 1 1 1 0");
        Check.due("states", Check.nodes(x, 3), "0 0 0 0 0 0 0");
        Check.due("count of aborted nodes", x.count(5), 5);
        Check.due("ends", x.value(-1, 1) * 10 + x.value(-1, 2), 11);
        Check.due("ticks", x.count(1), 1);
        Check.due("abort again", x.abort(), 0);
        x.set(0, 0);
        x.tick(99);
        Check.due("it begins again", x.value(-1, 0), 1);
    }

    private static void abortOfASuspendedTick() {
        BehaviorRunner x = Check.with("s(a0,!s(a0~1+1,a9))");
        Check.due("tick", x.tick(5), Check.SUSPENDED);
        Check.due("pending", x.pending(), 5);
        Check.due("abort", x.abort(), 3);
        Check.due("trace", Check.trace(x), "1:2 4:2 3:4 2:4 0:4");
        Check.due("pending", x.pending(), Check.NONE);
        Check.due("underWay", x.underWay(0), Check.NONE);
        Check.due("ticks", x.count(1), 0);
        Check.due("suspensions", x.count(8), 1);
        Check.due("successes and failures", x.count(2) + x.count(3), 0);
        Check.due("the next tick begins with node 0", x.tick(1), Check.SUSPENDED);
        Check.due("pending", x.pending(), 1);
        Check.due("runs of node 0", x.node(0, 5), 2);
    }

    private static void abortOfATickThatSkips() {
        BehaviorRunner x = Check.with("S(!?0=1,s(a9~1:3,a0),a0)");
        x.tick(99);
        Check.due("tick", x.tick(2), Check.SUSPENDED);
        Check.due("underWay(1)", x.underWay(1), 1);
        Check.due("abort", x.abort(), 4);
        Check.due("a later child that was running", Check.trace(x), "2:3 1:2 4:1 3:1 0:1 4:4 3:4 1:4 0:4");
        Check.due("its end", x.value(-1, 1), 3);
    }
}
