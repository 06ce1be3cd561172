/** The boundary cases of ticks: budgets, and promises 6 tick, 7 run, 8 foresee, 9 ticksToGo and 10 abort. */
final class TickBoundsTest {
    /** 24 nodes, all of which are visited in one tick, in the order of their numbers. */
    private static final String MOST = "s(" + Check.list("!x0", 11) + ",a0)";

    public static void main(String[] args) {
        budgetsOfTick();
        suspendedIsFive();
        everyBudget();
        justEnough();
        unitsAreNotKept();
        justBeforeTheVisit();
        goesOnWithTheSuspendedOne();
        resultsOfTicks();
        suspensionsAreCounted();
        numbersOfRun();
        notMoreThanAGivenNumber();
        untilOneEnds();
        theSuspendedTickCountsAsOne();
        runAfterManySuspensions();
        foreseeTheNextOne();
        foreseeTheSuspendedOne();
        foreseeChangesNothing();
        ticksToGoUpToFifty();
        ticksToGoWithASuspendedTick();
        ticksToGoAfterTheEnd();
        ticksToGoChangesNothing();
        abortOfAnIdleTree();
        abortOfARunningTree();
        abortAtEveryBudget();
        abortGivesUpTheTick();
        aTickAfterAnAbort();
        withoutATree();
        manyCalls();
        Check.end();
    }

    private static void budgetsOfTick() {
        Check.sentence("tick: budget: the budget, 1 to 999; BAD_ARGUMENT if budget is out of range");
        for (int budget : new int[] {1, 2, 998, 999}) {
            Check.due("tick(" + budget + ")", Check.with("a0").tick(budget), Check.SUCCESS);
        }
        for (int budget : new int[] {0, -1, -999, 1000, 1001, Integer.MIN_VALUE, Integer.MAX_VALUE}) {
            BehaviorRunner x = Check.with("a0");
            Check.due("tick(" + budget + ")", x.tick(budget), Check.BAD_ARGUMENT);
            Check.due("visits after it", x.count(4), 0);
            Check.due("tick(" + budget + ") without a tree", new BehaviorRunner().tick(budget), Check.BAD_ARGUMENT);
        }
    }

    private static void suspendedIsFive() {
        Check.sentence("SUSPENDED = 5: The tick is suspended.");
        Check.due("tick", Check.with("!a0").tick(1), BehaviorRunner.SUSPENDED);
    }

    private static void everyBudget() {
        Check.sentence("Each visit of a node uses one unit of the budget of the call");
        for (int budget = 1; budget <= 25; budget++) {
            BehaviorRunner x = Check.with(MOST);
            int used = budget;
            while (used < 24) {
                Check.due("tick(" + budget + ") after " + used, x.tick(budget), Check.SUSPENDED);
                Check.due("pending after " + used, x.pending(), used);
                Check.due("visits after " + used, x.count(4), used);
                used += budget;
            }
            Check.due("the last tick(" + budget + ")", x.tick(budget), Check.SUCCESS);
            Check.due("visits", x.count(4), 24);
            Check.due("suspensions", x.count(8), (24 - 1) / budget);
            Check.due("ticks", x.count(1), 1);
        }
    }

    private static void justEnough() {
        Check.sentence("a tick that needs a unit when there is none is suspended");
        String[][] cases = {{"s(a0,a0)", "3"}, {"s(x0,a0)", "2"}, {"w0a0", "1"}, {"g0=1a0", "1"}, {"!!!!!!!!!a1", "10"},
            {"p9(a9,a9)", "3"}, {"r9a0", "2"}, {"f(a0,a0)", "2"}, {"S(a1,a0)", "2"}, {MOST, "24"}};
        for (String[] one : cases) {
            int units = Integer.parseInt(one[1]);
            BehaviorRunner x = Check.with(one[0]);
            Check.due("enough for " + one[0], x.tick(units), Check.with(one[0]).tick(999));
            Check.due("suspensions of " + one[0], x.count(8), 0);
            if (units > 1) {
                BehaviorRunner y = Check.with(one[0]);
                Check.due("one too few for " + one[0], y.tick(units - 1), Check.SUSPENDED);
                Check.due("one more for " + one[0], y.tick(1), Check.with(one[0]).tick(999));
            }
        }
        BehaviorRunner z = Check.after("F(?0=1,p2(a9,a9,a9))", 1);
        z.set(0, 1);
        Check.due("aborts use no units", z.tick(2), Check.SUCCESS);
    }

    private static void unitsAreNotKept() {
        Check.sentence("one unit of the budget of the call");
        BehaviorRunner x = Check.with("s(a0,a0)");
        Check.due("tick with units left", x.tick(999), Check.SUCCESS);
        Check.due("the next tick has its own", x.tick(2), Check.SUSPENDED);
        Check.due("the rest with units left", x.tick(999), Check.SUCCESS);
        Check.due("the next tick has its own", x.tick(1), Check.SUSPENDED);
        Check.due("pending", x.pending(), 1);
    }

    private static void justBeforeTheVisit() {
        Check.sentence("is suspended just before the visit that needs it");
        BehaviorRunner x = Check.with("s(!!=0+1,l3g0=1=1+1)");
        Check.due("tick", x.tick(3), Check.SUSPENDED);
        Check.due("before the effect", x.value(-1, 0), 0);
        Check.due("runs", Check.nodes(x, 5), "1 1 1 0 0 0 0");
        Check.due("trace", Check.trace(x), "");
        Check.due("tick", x.tick(1), Check.SUSPENDED);
        Check.due("the visits behind the effect have ended", Check.trace(x), "3:2 2:3 1:2");
        Check.due("underWay", Check.underWay(x), "0");
        Check.due("pending", x.pending(), 4);
        Check.due("the scope has not begun", x.node(4, 3) + x.node(4, 9), 0);
        Check.due("tick", x.tick(1), Check.SUSPENDED);
        x.set(0, 5);
        Check.due("the condition was not looked at", x.tick(1), Check.FAILURE);
        BehaviorRunner y = Check.with("g0=0a0");
        y.tick(1);
        y.set(0, 5);
        Check.due("the condition was looked at", y.tick(1), Check.SUCCESS);
    }

    private static void goesOnWithTheSuspendedOne() {
        Check.sentence("and the next call of tick goes on with it");
        BehaviorRunner x = Check.with("S(?0=0,w1a0,r2a0)");
        for (int i = 1; i <= 4; i++) {
            Check.due("tick " + i, x.tick(1), Check.SUSPENDED);
        }
        Check.due("tick 5", x.tick(1), Check.SUSPENDED);
        Check.due("tick 6", x.tick(1), Check.RUNNING);
        Check.due("each node is visited once", Check.nodes(x, 9), "1 1 1 1 1 1");
        Check.due("ticks", x.count(1), 1);
        BehaviorRunner y = Check.with("s(a1,a1)");
        y.tick(1);
        y.tick(1);
        Check.due("states between two ticks", Check.nodes(y, 3), "1 1 0");
        Check.due("a running node that is next", y.tick(1), Check.SUSPENDED);
        Check.due("pending", y.pending(), 1);
        Check.due("its visits", y.node(1, 9), 1);
    }

    private static void resultsOfTicks() {
        Check.sentence("The tick ends with the result of node 0.");
        String[][] cases = {{"a0", "2", "1 1 0"}, {"x0", "3", "1 0 1"}, {"a9", "1", "1 0 0"}, {"!a0", "3", "1 0 1"},
            {"!x0", "2", "1 1 0"}, {"r2a0", "1", "1 0 0"}};
        for (String[] one : cases) {
            BehaviorRunner x = Check.with(one[0]);
            Check.due("tick of " + one[0], x.tick(9), Integer.parseInt(one[1]));
            Check.due("counts of " + one[0], x.count(1) + " " + x.count(2) + " " + x.count(3), one[2]);
        }
        BehaviorRunner y = Check.with("!a0");
        y.tick(1);
        Check.due("counts of a suspended tick", y.count(1) + y.count(2) + y.count(3), 0);
    }

    private static void suspensionsAreCounted() {
        Check.sentence("8 for how often a tick was suspended, each time counted");
        BehaviorRunner x = Check.with("!!a1");
        for (int i = 1; i <= 30; i++) {
            x.tick(1);
            Check.due("suspensions after call " + i, x.count(8), i - i / 3);
        }
        x.run(1);
        Check.due("run has no suspensions", x.count(8), 20);
    }

    private static void numbersOfRun() {
        Check.sentence("run: ticks: the greatest number of ticks, 1 to 50; BAD_ARGUMENT if ticks is out of range");
        for (int ticks : new int[] {1, 2, 49, 50}) {
            Check.due("run(" + ticks + ")", Check.with("a0").run(ticks), Check.SUCCESS);
        }
        for (int ticks : new int[] {0, -1, -50, 51, 52, 999, Integer.MIN_VALUE, Integer.MAX_VALUE}) {
            BehaviorRunner x = Check.with("a0");
            Check.due("run(" + ticks + ")", x.run(ticks), Check.BAD_ARGUMENT);
            Check.due("visits after it", x.count(4), 0);
            Check.due("run(" + ticks + ") without a tree", new BehaviorRunner().run(ticks), Check.BAD_ARGUMENT);
        }
    }

    private static void notMoreThanAGivenNumber() {
        Check.sentence("but not more than a given number");
        for (int ticks = 1; ticks <= 50; ticks++) {
            BehaviorRunner x = Check.with("S(a1,a1)");
            Check.due("run(" + ticks + ") of an endless tree", x.run(ticks), Check.RUNNING);
            Check.due("ticks of run(" + ticks + ")", x.count(1), ticks);
            Check.due("results of run(" + ticks + ")", x.count(2) + x.count(3) + x.count(8), 0);
        }
        BehaviorRunner x = Check.with(MOST.replace("a0)", "a9)"));
        Check.due("no budgets", x.run(1), Check.RUNNING);
        Check.due("visits", x.count(4), 24);
    }

    private static void untilOneEnds() {
        Check.sentence("until one of them ends with success or failure");
        for (int ticks = 1; ticks <= 12; ticks++) {
            for (String text : new String[] {"a6", "x6"}) {
                BehaviorRunner x = Check.with(text);
                int due = ticks < 7 ? Check.RUNNING : text.equals("a6") ? Check.SUCCESS : Check.FAILURE;
                Check.due("run(" + ticks + ") of " + text, x.run(ticks), due);
                Check.due("ticks of " + text, x.count(1), Math.min(ticks, 7));
            }
        }
        Check.due("run(49) of 50", Check.with("r5a9").run(49), Check.RUNNING);
        Check.due("run(50) of 50", Check.with("r5a9").run(50), Check.SUCCESS);
        Check.due("run(50) of 51", Check.with("s(r5a9,a1)").run(50), Check.RUNNING);
    }

    private static void theSuspendedTickCountsAsOne() {
        Check.sentence("first the rest of a suspended one, which counts as one");
        for (int ticks = 1; ticks <= 6; ticks++) {
            BehaviorRunner x = Check.with("s(a2,a2)");
            x.tick(1);
            Check.due("run(" + ticks + ")", x.run(ticks), ticks < 5 ? Check.RUNNING : Check.SUCCESS);
            Check.due("ticks", x.count(1), Math.min(ticks, 5));
            Check.due("pending", x.pending(), Check.NONE);
        }
        BehaviorRunner y = Check.with("s(=0+1,a0)");
        y.tick(2);
        Check.due("run(50) of the rest alone", y.run(50), Check.SUCCESS);
        Check.due("no tick behind it", y.value(-1, 0) * 10 + y.count(1), 11);
        BehaviorRunner z = Check.with("s(=0+1,x0)");
        z.tick(2);
        Check.due("run(50) of the rest alone", z.run(50), Check.FAILURE);
        Check.due("no tick behind it", z.value(-1, 0) * 10 + z.count(1), 11);
    }

    private static void runAfterManySuspensions() {
        Check.sentence("Performs ticks without budgets");
        for (int units = 1; units <= 23; units++) {
            BehaviorRunner x = Check.with(MOST);
            for (int i = 0; i < units; i++) {
                x.tick(1);
            }
            Check.due("run(1) after " + units, x.run(1), Check.SUCCESS);
            Check.due("visits", x.count(4), 24);
            Check.due("suspensions", x.count(8), units);
        }
    }

    private static void foreseeTheNextOne() {
        Check.sentence("or else the next one, without a budget");
        for (int n = 0; n <= 9; n++) {
            for (String letter : new String[] {"a", "x"}) {
                BehaviorRunner x = Check.with(letter + n);
                for (int i = 0; i <= n; i++) {
                    int due = i < n ? Check.RUNNING : letter.equals("a") ? Check.SUCCESS : Check.FAILURE;
                    Check.due("foresee before tick " + i + " of " + letter + n, x.foresee(), due);
                    Check.due("the tick", x.tick(1), due);
                }
            }
        }
        Check.due("foresee of 24 nodes", Check.with(MOST).foresee(), Check.SUCCESS);
    }

    private static void foreseeTheSuspendedOne() {
        Check.sentence("Returns the result that the tick would have that is suspended");
        for (int units = 1; units <= 23; units++) {
            BehaviorRunner x = Check.with(MOST);
            x.tick(units);
            Check.due("foresee after " + units, x.foresee(), Check.SUCCESS);
            Check.due("pending after foresee", x.pending(), units);
            Check.due("the rest", x.tick(24 - units), Check.SUCCESS);
        }
        BehaviorRunner y = Check.with("s(?0=0,?1=0)");
        y.tick(2);
        y.set(0, 1);
        Check.due("what was visited stays", y.foresee(), Check.SUCCESS);
        y.set(1, 1);
        Check.due("what is still to be visited", y.foresee(), Check.FAILURE);
        BehaviorRunner z = Check.with("S(?0=0,?1=0)");
        z.tick(2);
        z.set(0, 1);
        Check.due("it is not begun again", z.foresee(), Check.SUCCESS);
        Check.due("ticksToGo of it", z.ticksToGo(), 1);
        Check.due("the rest", z.tick(1), Check.SUCCESS);
        Check.due("foresee of the next one", z.foresee(), Check.FAILURE);
    }

    private static void foreseeChangesNothing() {
        Check.sentence("foresee: Nothing changes.");
        for (int calls = 0; calls <= 12; calls++) {
            String before = Check.state(used(calls));
            BehaviorRunner x = used(calls);
            x.foresee();
            x.foresee();
            Check.due("state after foresee, " + calls, Check.state(x), before);
            BehaviorRunner y = used(calls);
            y.foresee();
            kept(y, calls);
        }
    }

    /** The texts and the snapshot are as they would be without the call before. */
    private static void kept(BehaviorRunner x, int calls) {
        Check.due("characters of the text", x.count(10), 2);
        Check.due("the written text", Check.written(x), "l2s(=2+99,S(f(a1~0+1,x0),a2~1-1,=1:5))");
        x.restore();
        BehaviorRunner y = used(calls);
        y.restore();
        Check.due("state after restore, " + calls, Check.state(x), Check.state(y));
        Check.due("the text is still there", x.readTree(), 1);
    }

    private static BehaviorRunner used(int calls) {
        BehaviorRunner x = Check.with("l2s(=2+99,S(f(a1~0+1,x0),a2~1-1,=1:5))");
        x.write();
        x.append('a', 1);
        x.append('0', 1);
        x.tick(4);
        x.save();
        for (int i = 0; i < calls; i++) {
            x.tick(i % 3 + 1);
        }
        return x;
    }

    private static void ticksToGoUpToFifty() {
        Check.sentence("0 if it would take more than 50");
        String[][] cases = {{"a0", "1"}, {"x0", "1"}, {"a9", "10"}, {"r7a6", "49"}, {"t7x6", "49"}, {"r5a9", "50"}, {"t5x9", "50"},
            {"!r5a9", "50"}, {"s(r7a6,a1)", "50"}, {"s(r5a9,a1)", "0"}, {"f(t5x9,x1)", "0"}, {"s(r7a6,a2)", "0"}, {"r9a9", "0"},
            {"S(a1,a1)", "0"}, {"w9S(a1,a1)", "10"}, {"r9r9a0", "0"}, {"r9r5a0", "45"}};
        for (String[] one : cases) {
            BehaviorRunner x = Check.with(one[0]);
            int due = Integer.parseInt(one[1]);
            Check.due("ticksToGo of " + one[0], x.ticksToGo(), due);
            x.tick(1);
            Check.due("ticksToGo of " + one[0] + " after tick(1)", x.ticksToGo(), x.pending() == Check.NONE && due > 1 ? due - 1 : due);
        }
    }

    private static void ticksToGoWithASuspendedTick() {
        Check.sentence("Returns the number of ticks, the suspended one included");
        BehaviorRunner x = Check.with("s(r5a9,a1)");
        x.tick(1);
        Check.due("51 with the suspended one", x.ticksToGo(), 0);
        x.tick(2);
        Check.due("50 behind it", x.ticksToGo(), 50);
        x.tick(1);
        Check.due("50 with the suspended one", x.ticksToGo(), 50);
        x.run(48);
        Check.due("2 behind it", x.ticksToGo(), 2);
        x.run(1);
        Check.due("the last one", x.ticksToGo(), 1);
        x.tick(1);
        Check.due("the last one, suspended", x.ticksToGo(), 1);
        Check.due("the rest", x.tick(1), Check.SUCCESS);
    }

    private static void ticksToGoAfterTheEnd() {
        Check.sentence("after which there would be a success or failure");
        BehaviorRunner x = Check.after("a3", 4);
        Check.due("after a success", x.ticksToGo(), 4);
        BehaviorRunner y = Check.after("x3", 4);
        Check.due("after a failure", y.ticksToGo(), 4);
        y.tick(1);
        y.abort();
        Check.due("after an abort", y.ticksToGo(), 4);
        BehaviorRunner z = Check.with("r9s(=0+1,?0<5)");
        Check.due("what changes inside is looked at", z.ticksToGo(), 5);
    }

    private static void ticksToGoChangesNothing() {
        Check.sentence("ticksToGo: Returns the number of ticks ... after which there would be");
        for (int calls = 0; calls <= 12; calls++) {
            String before = Check.state(used(calls));
            BehaviorRunner x = used(calls);
            x.ticksToGo();
            x.ticksToGo();
            Check.due("state after ticksToGo, " + calls, Check.state(x), before);
            BehaviorRunner y = used(calls);
            y.ticksToGo();
            kept(y, calls);
        }
        BehaviorRunner z = Check.after("S(a1,l0s(=0+1,a9~0+1))", 1);
        Check.due("ticksToGo", z.ticksToGo(), 0);
        Check.due("counts", z.count(1) * 100 + z.count(5) * 10 + z.count(6), 100);
    }

    private static void abortOfAnIdleTree() {
        Check.sentence("Aborts node 0 if it is running");
        for (int ticks : new int[] {0, 2}) {
            String before = Check.state(Check.after("s(a1~0+1,x0)", ticks));
            BehaviorRunner x = Check.after("s(a1~0+1,x0)", ticks);
            Check.due("abort of an idle tree", x.abort(), 0);
            Check.due("state after it", Check.state(x), before);
        }
    }

    private static void abortOfARunningTree() {
        Check.sentence("with all running nodes below it");
        BehaviorRunner x = Check.after("p9(" + Check.list("a9", 22) + ")", 1);
        Check.due("state of node 0", x.node(0, 3), 1);
        Check.due("abort of the most children", x.abort(), 23);
        Check.due("entries", x.count(9), 30);
        Check.due("the first one aborted", x.trace(22, 0) * 10 + x.trace(22, 1), 224);
        BehaviorRunner y = Check.after("!!!!!!!!!a9", 1);
        Check.due("abort of the deepest tree", y.abort(), 10);
        Check.due("aborted", Check.nodes(y, 8), "1 1 1 1 1 1 1 1 1 1");
        Check.due("count", y.count(5), 10);
        Check.due("abort again", y.abort(), 0);
        BehaviorRunner z = Check.after("a1", 1);
        Check.due("abort of one node", z.abort(), 1);
    }

    private static void abortAtEveryBudget() {
        Check.sentence("those of visits that have not ended included");
        for (int units = 1; units <= 9; units++) {
            BehaviorRunner x = Check.with("!!!!!!!!!a9");
            Check.due("tick", x.tick(units), Check.SUSPENDED);
            Check.due("abort after " + units, x.abort(), units);
            Check.due("running nodes", x.count(7), 0);
            Check.due("entries", x.count(9), units);
            Check.due("the entry of node 0", x.trace(0, 0) * 10 + x.trace(0, 1), 4);
        }
        for (int units = 1; units <= 23; units++) {
            BehaviorRunner x = Check.with(MOST);
            x.tick(units);
            Check.due("abort of a sequence after " + units, x.abort(), units % 2 == 0 ? 2 : 1);
        }
    }

    private static void abortGivesUpTheTick() {
        Check.sentence("and gives up a suspended tick, which does not count as ended");
        BehaviorRunner x = Check.with("!a0");
        x.tick(1);
        Check.due("abort", x.abort(), 1);
        Check.due("ticks", x.count(1) + x.count(2) + x.count(3), 0);
        Check.due("suspensions", x.count(8), 1);
        Check.due("pending", x.pending(), Check.NONE);
        Check.due("underWay", x.underWay(0), Check.NONE);
        Check.due("foresee of a new tick", x.foresee(), Check.FAILURE);
        Check.due("visits", Check.nodes(x, 9), "1 0");
    }

    private static void aTickAfterAnAbort() {
        Check.sentence("Begins a tick, or goes on with a suspended one.");
        BehaviorRunner x = Check.with("s(=0+1,a0)");
        x.tick(2);
        x.abort();
        Check.due("a new tick", x.tick(2), Check.SUSPENDED);
        Check.due("the first child again", x.value(-1, 0), 2);
        Check.due("run", x.run(1), Check.SUCCESS);
        Check.due("runs", Check.nodes(x, 5), "2 2 1");
        Check.due("ticks", x.count(1), 1);
    }

    private static void withoutATree() {
        Check.sentence("NO_TREE = -1004: There is no tree.");
        BehaviorRunner x = new BehaviorRunner();
        for (int i = 0; i < 2; i++) {
            Check.due("tick(1)", x.tick(1), Check.NO_TREE);
            Check.due("tick(999)", x.tick(999), Check.NO_TREE);
            Check.due("run(1)", x.run(1), Check.NO_TREE);
            Check.due("run(50)", x.run(50), Check.NO_TREE);
            Check.due("foresee", x.foresee(), Check.NO_TREE);
            Check.due("ticksToGo", x.ticksToGo(), Check.NO_TREE);
            Check.due("abort", x.abort(), Check.NO_TREE);
            Check.due("a wrong text is no tree", Check.read(x, "!!!a"), -2004);
        }
    }

    private static void manyCalls() {
        Check.sentence("An object is used for at most 512 calls after it has been made");
        BehaviorRunner x = Check.with(MOST.replace("a0)", "a9)"));
        for (int i = 0; i < 400; i++) {
            x.run(50);
        }
        Check.due("ticks", x.count(1), 400 * 10);
        Check.due("visits", x.count(4), 400 * (24 + 9 * 2));
        BehaviorRunner y = Check.with("S(a1,a1)");
        for (int i = 0; i < 400; i++) {
            y.run(50);
        }
        Check.due("ticks", y.count(1), 20000);
        Check.due("visits", y.count(4), 50000);
        Check.due("runs of the first child", y.node(1, 5), 10000);
        BehaviorRunner z = Check.with("=0+1");
        for (int i = 1; i <= 505; i++) {
            z.tick(1);
        }
        Check.due("value", z.value(-1, 0), 505);
        Check.due("ticks", z.count(1), 505);
    }
}
