/** Promise 6: what a tick does at each kind of node, told by results, traces and values. */
final class KindsTest {
    public static void main(String[] args) {
        actions();
        ends();
        sequence();
        selector();
        reactiveSequence();
        reactiveSelector();
        parallel();
        parallelNumbers();
        inversion();
        repetition();
        retry();
        guard();
        timeLimit();
        abortsGoBackwards();
        Check.end();
    }

    private static void ticks(String text, String due) {
        BehaviorRunner x = Check.with(text);
        Check.due("ticks of " + text, Check.ticks(x, (due.length() + 1) / 2), due);
    }

    private static BehaviorRunner after(String text, int ticks) {
        BehaviorRunner x = Check.with(text);
        Check.ticks(x, ticks);
        return x;
    }

    private static void actions() {
        ticks("a0", "2 2 2");
        ticks("a2", "1 1 2 1 1 2");
        ticks("a9", "1 1 1 1 1 1 1 1 1 2 1");
        ticks("x0", "3 3");
        ticks("x1", "1 3 1 3");
        ticks("?0=0", "2 2");
        ticks("?0>0", "3 3");
        ticks("=0+1", "2 2");
        Check.due("effect of a2", after("a20+1", 2).value(-1, 0), 0);
        Check.due("effect of a2 done", after("a20+1", 3).value(-1, 0), 1);
        Check.due("effect of x1", after("x10+1", 2).value(-1, 0), 1);
    }

    private static void ends() {
        BehaviorRunner x = after("a10:5~0+2", 1);
        Check.due("before the end", x.value(-1, 0), 0);
        x.tick(1);
        Check.due("the end is done after the effect", x.value(-1, 0), 7);
        Check.due("ends", x.count(6), 1);
        Check.due("an end has no entry", Check.trace(x), "0:1 0:2");
        BehaviorRunner y = after("x00:5~0-2", 1);
        Check.due("the end of a failing action", y.value(-1, 0), 3);
        BehaviorRunner z = after("a30:5~0-2", 2);
        Check.due("abort", z.abort(), 1);
        Check.due("an abort does the end alone", z.value(-1, 0), -2);
        Check.due("ends by an abort", z.count(6), 1);
        Check.due("no end without one", after("s(a0,a00+1)", 1).count(6), 0);
    }

    private static void sequence() {
        ticks("s(a0,a1,a0)", "1 2 1 2");
        ticks("s(a1,a1)", "1 1 2");
        ticks("s(a0,x0,=0:1)", "3 3");
        Check.due("behind a failure", after("s(a0,x0,=0:1)", 1).value(-1, 0), 0);
        BehaviorRunner x = after("s(=0+1,a2,=1+1)", 3);
        Check.due("children are not visited again", x.value(-1, 0), 1);
        Check.due("trace of a sequence", Check.trace(x), "1:2 2:1 0:1 2:1 0:1 2:2 3:2 0:2");
        x.tick(9);
        Check.due("the next run is from the first child", x.value(-1, 0), 2);
    }

    private static void selector() {
        ticks("f(x0,x1,x0)", "1 3 1 3");
        ticks("f(x1,x1)", "1 1 3");
        ticks("f(x0,a0,=0:1)", "2 2");
        Check.due("behind a success", after("f(x0,a0,=0:1)", 1).value(-1, 0), 0);
        BehaviorRunner x = after("f(!=0+1,x2,!=1+1)", 3);
        Check.due("children are not visited again", x.value(-1, 0), 1);
        Check.due("all failed", x.node(0, 7), 1);
        Check.due("trace of a selector", Check.trace(after("f(x0,a1)", 2)), "1:3 2:1 0:1 2:2 0:2");
    }

    private static void reactiveSequence() {
        ticks("S(a0,a1,a0)", "1 2 1 2");
        ticks("S(a1,a1)", "1 1 1 1");
        BehaviorRunner x = after("S(?0=0,=1+1,a5~2+1,=3+1)", 3);
        Check.due("children are visited again", x.value(-1, 1), 3);
        Check.due("behind a running child", x.value(-1, 3), 0);
        x.set(0, 1);
        Check.due("it ends with a child that fails", x.tick(99), Check.FAILURE);
        Check.due("the later child is aborted", x.node(3, 8), 1);
        Check.due("its end is done", x.value(-1, 2), 1);
        Check.due("trace of the abort", x.trace(2, 0), 1);
        Check.due("trace of the abort", x.trace(1, 0) * 10 + x.trace(1, 1), 34);
        Check.due("trace of the abort", x.trace(0, 0) * 10 + x.trace(0, 1), 3);
        BehaviorRunner y = Check.with("S(f(?0=0,a1),a5)");
        y.tick(99);
        y.set(0, 1);
        Check.due("it ends with a child that is running", y.tick(99), Check.RUNNING);
        Check.due("the later child is aborted", Check.nodes(y, 8), "0 0 0 0 1");
        Check.due("states", Check.nodes(y, 3), "1 1 0 1 0");
        Check.due("it goes on", y.tick(99), Check.RUNNING);
        Check.due("states", Check.nodes(y, 3), "1 0 0 0 1");
        Check.due("runs", Check.nodes(y, 5), "1 2 2 1 2");
    }

    private static void reactiveSelector() {
        ticks("F(x0,x1,x0)", "1 3 1 3");
        ticks("F(x1,x1)", "1 1 1 1");
        BehaviorRunner x = after("F(?0=1,!=1+1,a5~2+1,=3+1)", 3);
        Check.due("children are visited again", x.value(-1, 1), 3);
        x.set(0, 1);
        Check.due("it ends with a child that succeeds", x.tick(99), Check.SUCCESS);
        Check.due("the later child is aborted", x.node(4, 8), 1);
        Check.due("its end is done", x.value(-1, 2), 1);
        Check.due("behind it", x.value(-1, 3), 0);
        BehaviorRunner y = Check.with("F(s(?0=1,a1),a5)");
        y.tick(99);
        y.set(0, 1);
        Check.due("it ends with a child that is running", y.tick(99), Check.RUNNING);
        Check.due("the later child is aborted", Check.nodes(y, 8), "0 0 0 0 1");
        Check.due("it succeeds", y.tick(99), Check.SUCCESS);
        Check.due("all are idle", y.count(7), 0);
    }

    private static void parallel() {
        BehaviorRunner x = Check.with("p2(a0,x1,a2,a9)");
        Check.due("first tick", x.tick(99), Check.RUNNING);
        Check.due("trace", Check.trace(x), "1:2 2:1 3:1 4:1 0:1");
        Check.due("second tick", x.tick(99), Check.RUNNING);
        Check.due("it does not visit what succeeded", x.node(1, 9), 1);
        Check.due("third tick", x.tick(99), Check.SUCCESS);
        Check.due("it does not visit what failed", x.node(2, 9), 2);
        Check.due("visits", Check.nodes(x, 9), "3 1 2 3 3");
        Check.due("aborted", Check.nodes(x, 8), "0 0 0 0 1");
        Check.due("trace at the end", Check.trace(x), "1:2 2:1 3:1 4:1 0:1 2:3 3:1 4:1 0:1 3:2 4:1 4:4 0:2");
        Check.due("a new run", x.tick(99), Check.RUNNING);
        Check.due("visits in a new run", Check.nodes(x, 9), "4 2 3 4 4");
    }

    private static void parallelNumbers() {
        ticks("p0(a3,a3)", "2 2");
        ticks("p0(x0,x0)", "2 2");
        ticks("p1(x0,a2)", "1 1 2");
        ticks("p1(x0,x1)", "1 3");
        ticks("p2(a0,a1)", "1 2");
        ticks("p2(a0,x1)", "1 3");
        ticks("p2(a5,x0)", "3 3");
        ticks("p2(a5,x0,a0)", "1 1 1 1 1 2");
        ticks("p2(a5,x0,x1)", "1 3");
        ticks("p3(a0,a0)", "3 3");
        ticks("p9(a1)", "3 3");
        Check.due("aborts of p9(a5,a5)", Check.trace(after("p9(a5,a5)", 1)), "1:1 2:1 2:4 1:4 0:3");
        Check.due("aborts of p0(a5,a5)", Check.trace(after("p0(a5,a5)", 1)), "1:1 2:1 2:4 1:4 0:2");
        Check.due("success comes before failure", after("p1(a0,x0,x0)", 1).node(0, 6), 1);
    }

    private static void inversion() {
        ticks("!a1", "1 3 1 3");
        ticks("!x1", "1 2 1 2");
        ticks("!!x0", "3 3");
    }

    private static void repetition() {
        ticks("r1a0", "2 2");
        ticks("r3a0", "1 1 2 1 1 2");
        ticks("r2a1", "1 1 1 2 1");
        ticks("r2x1", "1 3 1 3");
        ticks("r3s(?0<2,=0+1)", "1 1 3 3");
        ticks("r1r1a0", "2");
        ticks("r2r2a0", "1 1 1 2");
        Check.due("one visit of the child in a tick", after("r9a0", 1).count(4), 2);
    }

    private static void retry() {
        ticks("t1x0", "3 3");
        ticks("t3x0", "1 1 3 1 1 3");
        ticks("t2x1", "1 1 1 3 1");
        ticks("t2a1", "1 2 1 2");
        ticks("t3f(?0>1,!=0+1)", "1 1 2");
        Check.due("one visit of the child in a tick", after("t9x0", 1).count(4), 2);
    }

    private static void guard() {
        BehaviorRunner x = Check.with("g0=0a5~1+1");
        Check.due("fulfilled", x.tick(99), Check.RUNNING);
        x.set(0, 1);
        Check.due("not fulfilled", x.tick(99), Check.FAILURE);
        Check.due("trace", Check.trace(x), "1:1 0:1 1:4 0:3");
        Check.due("the end of its child", x.value(-1, 1), 1);
        Check.due("not fulfilled with an idle child", x.tick(1), Check.FAILURE);
        Check.due("runs", Check.nodes(x, 5), "2 1");
        Check.due("failures", Check.nodes(x, 7), "2 0");
        ticks("g0=0x0", "3");
        ticks("g0=0a1", "1 2");
        ticks("g0=0=0:1", "2 3");
    }

    private static void timeLimit() {
        ticks("w0a0", "3 3");
        ticks("w1a0", "2 2 2");
        ticks("w1a1", "1 3 1 3");
        ticks("w2a9", "1 1 3 1 1 3");
        ticks("w2a2", "1 1 3");
        ticks("w3a2", "1 1 2 1");
        ticks("w2x1", "1 3 1 3");
        Check.due("trace of w1a9~0+1", Check.trace(after("w1a9~0+1", 2)), "1:1 0:1 1:4 0:3");
        Check.due("end in w1a9~0+1", after("w1a9~0+1", 2).value(-1, 0), 1);
        Check.due("runs below w0", Check.nodes(after("w0a0", 1), 5), "1 0");
    }

    private static void abortsGoBackwards() {
        BehaviorRunner x = after("g0=0p9(p2(a9~1+1,a9~1-1),s(a9~1:8),a9~1:5)", 0);
        Check.due("tick", x.tick(99), Check.FAILURE);
        Check.due("trace", Check.trace(x), "3:1 4:1 2:1 6:1 5:1 7:1 7:4 6:4 5:4 4:4 3:4 2:4 1:3 0:3");
        Check.due("ends in this order", x.value(-1, 1), 8);
        BehaviorRunner y = Check.with("g0=0p2(p2(a9~1+1,a9~1-1),s(a9~1:8),a9~1:5)");
        y.tick(99);
        y.set(0, 1);
        Check.due("tick", y.tick(99), Check.FAILURE);
        Check.due("trace", Check.trace(y),
                "3:1 4:1 2:1 6:1 5:1 7:1 1:1 0:1 7:4 6:4 5:4 4:4 3:4 2:4 1:4 0:3");
        Check.due("aborted", y.count(5), 7);
        Check.due("ends", y.count(6), 4);
    }
}
