/** The boundary cases of promise 6 tick at each kind of node: its numbers, first and last children, and new runs. */
final class VisitBoundsTest {
    public static void main(String[] args) {
        visitsOfIdleAndRunningNodes();
        actionsOfEveryNumber();
        actionsBeginWithZero();
        effectsOfActions();
        failingActionsOfEveryNumber();
        leavesEndAtOnce();
        listsOfOneChild();
        listsOfTheMostChildren();
        firstAndLastChildren();
        sequencesGoOnWhereTheyWere();
        selectorsGoOnWhereTheyWere();
        listsBeginAgainWithTheFirst();
        reactiveFromTheFirst();
        reactiveAborts();
        reactiveAbortsNothingElse();
        everyParallel();
        parallelsVisitWhatHasNotEnded();
        parallelsBeginAgainWithAll();
        parallelsOfTheMostChildren();
        inversions();
        repetitionsOfEveryNumber();
        retriesOfEveryNumber();
        repeatedChildrenInTheNextTick();
        countsOfRepetitionsBeginWithZero();
        guards();
        timeLimitsOfEveryNumber();
        timeLimitsBeginAgain();
        timeLimitsCountTheirOwnVisits();
        scopesBeginWithZero();
        Check.end();
    }

    private static void ticks(String text, String due) {
        BehaviorRunner x = Check.with(text);
        Check.due("ticks of " + text, Check.ticks(x, (due.length() + 1) / 2), due);
    }

    /** Running some times and then a result. */
    private static String runningThen(int times, int result) {
        return "1 ".repeat(times) + result;
    }

    private static void visitsOfIdleAndRunningNodes() {
        Check.sentence("A visit of an idle node begins a run of it; from then on, it is running, until the run ends");
        BehaviorRunner x = Check.with("s(a1)");
        Check.due("states at first", Check.nodes(x, 3), "0 0");
        Check.due("runs at first", Check.nodes(x, 5), "0 0");
        x.tick(1);
        Check.due("states in the visit of node 0", Check.nodes(x, 3), "1 0");
        Check.due("runs in the visit of node 0", Check.nodes(x, 5), "1 0");
        x.tick(1);
        Check.due("states after a tick", Check.nodes(x, 3), "1 1");
        x.tick(1);
        Check.due("a visit of a running node begins no run", Check.nodes(x, 5), "1 1");
        x.tick(1);
        Check.due("states after success", Check.nodes(x, 3), "0 0");
        x.tick(1);
        Check.due("the next run", Check.nodes(x, 5), "2 1");
    }

    private static void actionsOfEveryNumber() {
        Check.sentence("action with number n: it has a count, 0 at the beginning of a run. If the count is n, ...");
        for (int n = 0; n <= 9; n++) {
            String once = runningThen(n, Check.SUCCESS);
            ticks("a" + n, once + " " + once);
            BehaviorRunner x = Check.after("a" + n, 2 * n + 2);
            Check.due("visits of a" + n, x.node(0, 9), 2 * n + 2);
            Check.due("runs of a" + n, x.node(0, 5), 2);
        }
    }

    private static void actionsBeginWithZero() {
        Check.sentence("it has a count, 0 at the beginning of a run");
        for (char letter : new char[] {'a', 'x'}) {
            BehaviorRunner x = Check.after(letter + "3", 3);
            Check.due("abort with the count 3", x.abort(), 1);
            Check.due("ticks of the next run", Check.ticks(x, 4), runningThen(3, letter == 'a' ? 2 : 3));
        }
    }

    private static void effectsOfActions() {
        Check.sentence("If the count is n, it does its effect, if it has one, and succeeds");
        for (int n = 0; n <= 9; n++) {
            for (char letter : new char[] {'a', 'x'}) {
                BehaviorRunner x = Check.with(letter + "" + n + "0+7");
                Check.ticks(x, n);
                Check.due("before the effect of " + letter + n, x.value(-1, 0), 0);
                x.tick(1);
                Check.due("after the effect of " + letter + n, x.value(-1, 0), 7);
                Check.due("no end", x.count(6), 0);
                BehaviorRunner y = Check.after(letter + "" + n, n + 1);
                Check.due("without an effect", Check.globals(y), "0 0 0 0 0 0 0 0");
            }
        }
    }

    private static void failingActionsOfEveryNumber() {
        Check.sentence("failing action with number n: likewise, but it fails instead of succeeding");
        for (int n = 0; n <= 9; n++) {
            String once = runningThen(n, Check.FAILURE);
            ticks("x" + n, once + " " + once);
            BehaviorRunner x = Check.after("x" + n, n + 1);
            Check.due("failures of x" + n, x.node(0, 7) * 10 + x.node(0, 6), 10);
        }
    }

    private static void leavesEndAtOnce() {
        Check.sentence("condition: it succeeds if its condition is fulfilled, otherwise it fails");
        ticks("?0<1", "2 2");
        ticks("?0<0", "3 3");
        ticks("?0=0", "2 2");
        ticks("?0=1", "3 3");
        ticks("?0>0", "3 3");
        Check.sentence("effect: it does its effect and succeeds");
        ticks("=0+99", "2 2 2 2 2 2 2 2 2 2 2 2");
        Check.due("state of an effect", Check.after("=0:1", 1).node(0, 3), 0);
    }

    private static void listsOfOneChild() {
        Check.sentence("list: \"(\" node { \",\" node } \")\"");
        for (String head : new String[] {"s", "f", "S", "F"}) {
            ticks(head + "(a0)", "2 2");
            ticks(head + "(x0)", "3 3");
            ticks(head + "(a1)", "1 2 1 2");
            ticks(head + "(x1)", "1 3 1 3");
        }
        ticks("p0(x0)", "2 2");
        ticks("p1(a1)", "1 2 1 2");
        ticks("p1(x1)", "1 3 1 3");
        ticks("p2(a0)", "3 3");
    }

    private static void listsOfTheMostChildren() {
        Check.sentence("and succeeds behind the last one");
        for (String head : new String[] {"s", "S"}) {
            BehaviorRunner x = Check.with(head + "(" + Check.list("a0", 22) + ")");
            Check.due(head + " of 22", x.tick(23), Check.SUCCESS);
            Check.due("the last child", x.node(22, 6), 1);
        }
        for (String head : new String[] {"f", "F"}) {
            BehaviorRunner x = Check.with(head + "(" + Check.list("x0", 22) + ")");
            Check.due(head + " of 22", x.tick(23), Check.FAILURE);
            Check.due("the last child", x.node(22, 7), 1);
        }
        BehaviorRunner x = Check.with("s(" + Check.list("a1", 22) + ")");
        Check.due("22 children that run", Check.ticks(x, 23), runningThen(22, Check.SUCCESS));
        BehaviorRunner y = Check.with("S(" + Check.list("a0", 21) + ",a9)");
        y.tick(23);
        Check.due("the last child is running", y.node(22, 3), 1);
    }

    private static void firstAndLastChildren() {
        Check.sentence("if a child fails, it fails; if a child is running, it is running");
        for (String head : new String[] {"s", "S"}) {
            Check.due("the first child fails", Check.trace(Check.after(head + "(x0,a0)", 1)), "1:3 0:3");
            Check.due("the last child fails", Check.trace(Check.after(head + "(a0,x0)", 1)), "1:2 2:3 0:3");
            Check.due("the first child is running", Check.trace(Check.after(head + "(a1,a0)", 1)), "1:1 0:1");
            Check.due("the last child is running", Check.trace(Check.after(head + "(a0,a1)", 1)), "1:2 2:1 0:1");
            Check.due("all succeed", Check.trace(Check.after(head + "(a0,a0)", 1)), "1:2 2:2 0:2");
        }
        Check.sentence("likewise, with success and failure exchanged");
        for (String head : new String[] {"f", "F"}) {
            Check.due("the first child succeeds", Check.trace(Check.after(head + "(a0,x0)", 1)), "1:2 0:2");
            Check.due("the last child succeeds", Check.trace(Check.after(head + "(x0,a0)", 1)), "1:3 2:2 0:2");
            Check.due("the first child is running", Check.trace(Check.after(head + "(a1,x0)", 1)), "1:1 0:1");
            Check.due("the last child is running", Check.trace(Check.after(head + "(x0,a1)", 1)), "1:3 2:1 0:1");
            Check.due("all fail", Check.trace(Check.after(head + "(x0,x0)", 1)), "1:3 2:3 0:3");
        }
    }

    private static void sequencesGoOnWhereTheyWere() {
        Check.sentence("it visits its children, from that which it visited last in this run");
        BehaviorRunner x = Check.after("s(a1,a0,a2,a1)", 5);
        Check.due("trace", Check.trace(x), "1:1 0:1 1:2 2:2 3:1 0:1 3:1 0:1 3:2 4:1 0:1 4:2 0:2");
        BehaviorRunner y = Check.after("s(?0=0,a1)", 1);
        y.set(0, 1);
        Check.due("a child that has succeeded is not visited again", y.tick(2), Check.SUCCESS);
    }

    private static void selectorsGoOnWhereTheyWere() {
        Check.sentence("it visits its children, from that which it visited last in this run");
        BehaviorRunner x = Check.after("f(x1,x0,x2,x1)", 5);
        Check.due("trace", Check.trace(x), "1:1 0:1 1:3 2:3 3:1 0:1 3:1 0:1 3:3 4:1 0:1 4:3 0:3");
        BehaviorRunner y = Check.after("f(?0>0,a1)", 1);
        y.set(0, 1);
        Check.due("a child that has failed is not visited again", y.tick(2), Check.SUCCESS);
        Check.due("visits", Check.nodes(y, 9), "2 1 2");
    }

    private static void listsBeginAgainWithTheFirst() {
        Check.sentence("in this run, at first the first one");
        Check.due("after a success", Check.nodes(Check.after("s(a0,a1,a0)", 3), 9), "3 2 3 1");
        Check.due("after a failure", Check.nodes(Check.after("s(a0,x1,a0)", 3), 9), "3 2 3 0");
        Check.due("after a failure", Check.nodes(Check.after("f(x0,x1,x0)", 3), 9), "3 2 3 1");
        Check.due("after a success", Check.nodes(Check.after("f(x0,a1,x0)", 3), 9), "3 2 3 0");
        for (String text : new String[] {"s(a0,a9,a0)", "f(x0,a9,x0)"}) {
            BehaviorRunner x = Check.after(text, 2);
            x.abort();
            x.tick(99);
            Check.due("after an abort in " + text, Check.nodes(x, 9), "3 2 3 0");
        }
        BehaviorRunner x = Check.after("S(?0=0,s(a0,a9))", 2);
        x.set(0, 1);
        x.tick(99);
        x.set(0, 0);
        x.tick(99);
        Check.due("after an abort by a node above", Check.nodes(x, 9), "4 4 3 2 3");
    }

    private static void reactiveFromTheFirst() {
        Check.sentence("each visit goes through the children from the first one, as long as they succeed");
        BehaviorRunner x = Check.after("S(a0,a1,a0,a1,a0)", 4);
        Check.due("trace", Check.trace(x), "1:2 2:1 0:1 1:2 2:2 3:2 4:1 0:1 1:2 2:1 4:4 0:1 1:2 2:2 3:2 4:1 0:1");
        BehaviorRunner y = Check.after("F(x0,x1,x0,x1,x0)", 4);
        Check.due("trace", Check.trace(y), "1:3 2:1 0:1 1:3 2:3 3:3 4:1 0:1 1:3 2:1 4:4 0:1 1:3 2:3 3:3 4:1 0:1");
        BehaviorRunner z = Check.after("S(?0=0,?1=0,a3)", 3);
        Check.due("visits", Check.nodes(z, 9), "3 3 3 3");
        Check.due("behind the last one", z.tick(4), Check.SUCCESS);
        Check.due("the state of the last one", z.node(3, 3), 0);
    }

    private static void reactiveAborts() {
        Check.sentence("If it ends with a child that fails or is running, and a later child is running, the later child is aborted.");
        String[][] cases = {
            {"S(f(?0=0,x0),a9)", "3"},
            {"S(f(?0=0,x0),a0,a0,a9)", "3"},
            {"S(f(?0=0,a9),a9)", "1"},
            {"S(f(?0=0,a9),a0,a0,a9)", "1"},
            {"F(s(?0=1,a0),a9)", "2"},
            {"F(s(?0=1,a0),x0,x0,a9)", "2"},
            {"F(s(?0=1,a9),a9)", "1"},
            {"F(s(?0=1,a9),x0,x0,a9)", "1"},
        };
        for (String[] one : cases) {
            BehaviorRunner x = Check.after(one[0], 1);
            int last = x.count(0) - 1;
            Check.due("the later child of " + one[0], x.node(last, 3), 1);
            x.set(0, 1);
            x.tick(99);
            String due = "1:" + one[1] + " " + last + ":4 0:" + one[1];
            Check.due("the end of the trace of " + one[0], Check.trace(x).endsWith(due) ? "" : Check.trace(x), "");
            Check.due("aborted in " + one[0], x.count(5), 1);
            Check.due("the later child of " + one[0], x.node(last, 3), 0);
        }
    }

    private static void reactiveAbortsNothingElse() {
        Check.sentence("and a later child is running");
        Check.due("an idle later child", Check.after("S(x0,a9)", 2).count(5), 0);
        Check.due("an idle later child", Check.after("F(a0,a9)", 2).count(5), 0);
        Check.due("no later child", Check.after("S(a0,a0,a9)", 9).count(5), 0);
        Check.due("the child itself that fails", Check.after("S(a0,x2)", 3).count(5), 0);
        Check.due("the child itself that succeeds", Check.after("F(x0,a2)", 3).count(5), 0);
        Check.due("a child that succeeds behind an earlier one", Check.after("S(a0,a2,a0)", 3).count(5), 0);
        BehaviorRunner x = Check.after("p2(S(a0,a9),a1,a1)", 1);
        Check.due("states", Check.nodes(x, 3), "1 1 0 1 1 1");
        BehaviorRunner y = Check.after("s(p1(S(f(?0=0,x0),a9),a9))", 1);
        y.set(0, 1);
        y.tick(99);
        Check.due("a later node that is no child of it", Check.nodes(y, 8), "0 0 0 0 0 0 1 0");
        Check.due("its state", y.node(7, 3), 1);
    }

    /** All parallels of up to four children that succeed, fail or go on running at their first visit. */
    private static void everyParallel() {
        Check.sentence("it succeeds if at least n have succeeded, otherwise it fails if more have failed than ...");
        String[] kinds = {"a0", "x0", "a9"};
        int combinations = 1;
        for (int children = 1; children <= 4; children++) {
            combinations *= kinds.length;
            for (int combination = 0; combination < combinations; combination++) {
                int[] ones = new int[children];
                StringBuilder list = new StringBuilder();
                for (int i = 0, rest = combination; i < children; i++, rest /= kinds.length) {
                    ones[i] = rest % kinds.length;
                    list.append(i == 0 ? "" : ",").append(kinds[ones[i]]);
                }
                for (int n = 0; n <= 9; n++) {
                    parallel("p" + n + "(" + list + ")", n, ones);
                }
            }
        }
    }

    private static void parallel(String text, int n, int[] ones) {
        int succeeded = 0;
        int failed = 0;
        StringBuilder trace = new StringBuilder();
        for (int i = 0; i < ones.length; i++) {
            succeeded += ones[i] == 0 ? 1 : 0;
            failed += ones[i] == 1 ? 1 : 0;
            trace.append(i + 1).append(ones[i] == 0 ? ":2 " : ones[i] == 1 ? ":3 " : ":1 ");
        }
        int result = succeeded >= n ? Check.SUCCESS : failed > ones.length - n ? Check.FAILURE : Check.RUNNING;
        for (int i = ones.length - 1; i >= 0 && result != Check.RUNNING; i--) {
            trace.append(ones[i] == 2 ? i + 1 + ":4 " : "");
        }
        BehaviorRunner x = Check.with(text);
        Check.due("tick of " + text, x.tick(99), result);
        Check.due("trace of " + text, Check.trace(x), trace.append("0:").append(result).toString());
    }

    private static void parallelsVisitWhatHasNotEnded() {
        Check.sentence("it visits all children that have not succeeded or failed in this run, in order");
        BehaviorRunner x = Check.with("p3(a2,x0,a0,a1,a3)");
        Check.due("ticks", Check.ticks(x, 3), "1 1 2");
        Check.due("visits", Check.nodes(x, 9), "3 3 1 1 2 3");
        Check.due("trace", Check.trace(x), "1:1 2:3 3:2 4:1 5:1 0:1 1:1 4:2 5:1 0:1 1:2 5:1 5:4 0:2");
        BehaviorRunner y = Check.with("p1(x0,x1,x2,x9)");
        Check.due("ticks", Check.ticks(y, 10), runningThen(9, Check.FAILURE));
        Check.due("visits", Check.nodes(y, 9), "10 1 2 3 10");
    }

    private static void parallelsBeginAgainWithAll() {
        Check.sentence("that have not succeeded or failed in this run");
        Check.due("after a success", Check.nodes(Check.after("p2(a0,x0,a1)", 4), 9), "4 2 2 4");
        Check.due("after a failure", Check.nodes(Check.after("p2(a0,x0,x1)", 4), 9), "4 2 2 4");
        BehaviorRunner x = Check.after("p2(a0,x0,a9)", 2);
        x.abort();
        Check.due("tick after an abort", x.tick(99), Check.RUNNING);
        Check.due("visits after an abort", Check.nodes(x, 9), "3 2 2 3");
        BehaviorRunner y = Check.after("r3p2(a0,a0)", 3);
        Check.due("below a repetition", Check.nodes(y, 9), "3 3 3 3");
    }

    private static void parallelsOfTheMostChildren() {
        Check.sentence("So it fails at its first visit if n is greater than the number of children.");
        BehaviorRunner x = Check.with("p9(" + Check.list("a0", 9) + ")");
        Check.due("nine of nine", x.tick(10), Check.SUCCESS);
        BehaviorRunner y = Check.with("p9(" + Check.list("a0", 8) + ")");
        Check.due("nine of eight", y.tick(9), Check.FAILURE);
        Check.due("all are visited", Check.nodes(y, 9), "1 1 1 1 1 1 1 1 1");
        BehaviorRunner z = Check.with("p9(a9," + Check.list("x0", 12) + "," + Check.list("a0", 8) + ")");
        Check.due("eight of 21, with one that is running", z.tick(22), Check.RUNNING);
        BehaviorRunner w = Check.with("p9(" + Check.list("x0", 13) + "," + Check.list("a9", 8) + ")");
        Check.due("thirteen of 21 fail", w.tick(22), Check.FAILURE);
        Check.due("aborted", w.count(5), 8);
        Check.due("the first one aborted", w.trace(8, 0), 21);
        Check.due("the last one aborted", w.trace(1, 0), 14);
    }

    private static void inversions() {
        Check.sentence("inversion: it visits its child, and exchanges success and failure");
        ticks("!a0", "3 3");
        ticks("!x0", "2 2");
        ticks("!a9", "1 1 1 1 1 1 1 1 1 3 1");
        ticks("!!!!!!!!!x0", "2");
        ticks("!!!!!!!!!a1", "1 3");
        Check.due("a running child", Check.trace(Check.after("!x1", 2)), "1:1 0:1 1:3 0:2");
    }

    private static void repetitionsOfEveryNumber() {
        Check.sentence("if it succeeds for the n-th time in this run, it succeeds; otherwise it is running");
        for (int n = 1; n <= 9; n++) {
            String once = runningThen(n - 1, Check.SUCCESS);
            ticks("r" + n + "a0", once + " " + once);
            ticks("r" + n + "a1", runningThen(2 * n - 1, Check.SUCCESS));
            ticks("r" + n + "x0", "3 3");
            ticks("r" + n + "x1", "1 3 1 3");
            for (int good = 0; good < n; good++) {
                ticks("r" + n + "s(?0<" + good + ",=0+1)", runningThen(good, Check.FAILURE));
            }
        }
    }

    private static void retriesOfEveryNumber() {
        Check.sentence("retry with number n: likewise, with success and failure exchanged");
        for (int n = 1; n <= 9; n++) {
            String once = runningThen(n - 1, Check.FAILURE);
            ticks("t" + n + "x0", once + " " + once);
            ticks("t" + n + "x1", runningThen(2 * n - 1, Check.FAILURE));
            ticks("t" + n + "a0", "2 2");
            ticks("t" + n + "a1", "1 2 1 2");
            for (int bad = 0; bad < n; bad++) {
                ticks("t" + n + "!s(?0<" + bad + ",=0+1)", runningThen(bad, Check.SUCCESS));
            }
        }
    }

    private static void repeatedChildrenInTheNextTick() {
        Check.sentence("and its child is visited again in the next tick");
        Check.due("trace of a repetition", Check.trace(Check.after("r3a0", 3)), "1:2 0:1 1:2 0:1 1:2 0:2");
        Check.due("trace of a retry", Check.trace(Check.after("t3x0", 3)), "1:3 0:1 1:3 0:1 1:3 0:3");
        Check.due("runs of the child", Check.nodes(Check.after("r3a1", 6), 5), "1 3");
        BehaviorRunner x = Check.after("r2a0", 1);
        Check.due("states between", Check.nodes(x, 3), "1 0");
    }

    private static void countsOfRepetitionsBeginWithZero() {
        Check.sentence("for the n-th time in this run");
        for (String text : new String[] {"r3a0", "t3x0"}) {
            BehaviorRunner x = Check.after(text, 2);
            Check.due("abort of " + text, x.abort(), 1);
            Check.due("ticks after an abort of " + text, Check.ticks(x, 3), text.equals("r3a0") ? "1 1 2" : "1 1 3");
        }
        BehaviorRunner x = Check.after("r3?0=0", 2);
        x.set(0, 1);
        Check.due("a failure after two successes", x.tick(9), Check.FAILURE);
        x.set(0, 0);
        Check.due("ticks after a failure", Check.ticks(x, 3), "1 1 2");
        BehaviorRunner y = Check.after("t3?0>0", 2);
        y.set(0, 1);
        Check.due("a success after two failures", y.tick(9), Check.SUCCESS);
        y.set(0, 0);
        Check.due("ticks after a success", Check.ticks(y, 3), "1 1 3");
    }

    private static void guards() {
        Check.sentence("guard: if its condition is not fulfilled, its child is aborted if it is running, and it fails");
        BehaviorRunner x = Check.with("g0<1a2~1+1");
        x.set(0, 1);
        Check.due("with an idle child", Check.ticks(x, 2), "3 3");
        Check.due("trace", Check.trace(x), "0:3 0:3");
        Check.due("aborted", x.count(5), 0);
        x.set(0, 0);
        Check.due("ticks", Check.ticks(x, 2), "1 1");
        x.set(0, 1);
        Check.due("with a running child", x.tick(1), Check.FAILURE);
        Check.due("trace", Check.trace(x), "0:3 0:3 1:1 0:1 1:1 0:1 1:4 0:3");
        x.set(0, 0);
        Check.due("the child begins again", Check.ticks(x, 3), "1 1 2");
        Check.sentence("guard: otherwise it visits its child and has its result");
        ticks("g0=0a0", "2 2");
        ticks("g0=0x0", "3 3");
        ticks("g0=0a1", "1 2");
        Check.due("the condition is looked at before the child", Check.after("g0=0=0:1", 1).node(0, 6), 1);
    }

    private static void timeLimitsOfEveryNumber() {
        Check.sentence("if it has been visited at least n times in this run before, so with n = 0 at its first visit, ...");
        for (int n = 0; n <= 9; n++) {
            for (int m = 0; m <= 9; m++) {
                boolean late = m >= n;
                String once = runningThen(late ? n : m, late ? Check.FAILURE : Check.SUCCESS);
                ticks("w" + n + "a" + m, once + " " + once);
                ticks("w" + n + "x" + m, runningThen(late ? n : m, Check.FAILURE));
                BehaviorRunner x = Check.after("w" + n + "a" + m, Math.min(n, m) + 1);
                Check.due("aborted in w" + n + "a" + m, x.node(1, 8), late && n > 0 ? 1 : 0);
                Check.due("runs in w" + n + "a" + m, x.node(1, 5), n == 0 ? 0 : 1);
            }
        }
    }

    private static void timeLimitsBeginAgain() {
        Check.sentence("if it has been visited at least n times in this run before");
        BehaviorRunner x = Check.after("w2a9", 2);
        Check.due("abort", x.abort(), 2);
        Check.due("ticks after an abort", Check.ticks(x, 3), "1 1 3");
        BehaviorRunner y = Check.after("w2f(?0=1,a9)", 2);
        y.abort();
        y.tick(99);
        y.abort();
        y.set(0, 1);
        Check.due("ticks of runs that succeed", Check.ticks(y, 5), "2 2 2 2 2");
    }

    private static void timeLimitsCountTheirOwnVisits() {
        Check.sentence("if it has been visited at least n times in this run before");
        ticks("w3r9a0", "1 1 1 3");
        ticks("r2w1a0", "1 2");
        ticks("s(a1,w1a0)", "1 2");
        ticks("w9r9a0", "1 1 1 1 1 1 1 1 2");
        ticks("w8r9a0", "1 1 1 1 1 1 1 1 3");
    }

    private static void scopesBeginWithZero() {
        Check.sentence("scope with a key: at the beginning of a run, its local value is 0");
        BehaviorRunner x = Check.after("l0s(=0+5,a1,=0+5)", 1);
        Check.due("in the first tick", x.node(0, 11), 5);
        x.tick(99);
        Check.due("it is not 0 again at the second visit", x.node(0, 11), 10);
        x.tick(1);
        Check.due("it is 0 at the beginning of the next run", x.node(0, 11), 0);
        x.abort();
        x.tick(99);
        Check.due("in the run after an abort", x.node(0, 11), 5);
        Check.sentence("It visits its child and has its result.");
        ticks("l0a1", "1 2");
        ticks("l0x1", "1 3");
    }
}
