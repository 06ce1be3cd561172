/** Promises 4 set and 5 value, with effects, conditions and scopes. */
final class BoardTest {
    public static void main(String[] args) {
        set();
        value();
        effects();
        effectsStayInRange();
        conditions();
        nearestScope();
        scopeBelongsToThoseBelow();
        idleScopeKeepsItsValue();
        conditionsOfGuardsAndEndsUseScopes();
        Check.end();
    }

    private static void set() {
        BehaviorRunner x = new BehaviorRunner();
        Check.due("set(-1, 0)", x.set(-1, 0), Check.BAD_ARGUMENT);
        Check.due("set(8, 0)", x.set(8, 0), Check.BAD_ARGUMENT);
        Check.due("set(0, 1000)", x.set(0, 1000), Check.BAD_ARGUMENT);
        Check.due("set(0, -1000)", x.set(0, -1000), Check.BAD_ARGUMENT);
        Check.due("set(least, least)", x.set(Integer.MIN_VALUE, Integer.MIN_VALUE), Check.BAD_ARGUMENT);
        Check.due("set(greatest, 0)", x.set(Integer.MAX_VALUE, 0), Check.BAD_ARGUMENT);
        Check.due("set(0, 999)", x.set(0, 999), 0);
        Check.due("set(0, -999)", x.set(0, -999), 999);
        Check.due("set(0, 1000) again", x.set(0, 1000), Check.BAD_ARGUMENT);
        Check.due("value after errors", x.value(-1, 0), -999);
        Check.due("set(7, 1)", x.set(7, 1), 0);
        Check.due("set(7, 2)", x.set(7, 2), 1);
        Check.due("another key", x.value(-1, 1), 0);
    }

    private static void value() {
        BehaviorRunner x = Check.with("s(a0,a0)");
        Check.due("value(0, -1)", x.value(0, -1), Check.BAD_ARGUMENT);
        Check.due("value(0, 8)", x.value(0, 8), Check.BAD_ARGUMENT);
        Check.due("value(9, 8)", x.value(9, 8), Check.BAD_ARGUMENT);
        Check.due("value(-1, 8)", x.value(-1, 8), Check.BAD_ARGUMENT);
        Check.due("value(-2, 0)", x.value(-2, 0), Check.NONE);
        Check.due("value(3, 0)", x.value(3, 0), Check.NONE);
        Check.due("value(greatest, 0)", x.value(Integer.MAX_VALUE, 0), Check.NONE);
        Check.due("value(least, 0)", x.value(Integer.MIN_VALUE, 0), Check.NONE);
        x.set(3, 12);
        Check.due("value(-1, 3)", x.value(-1, 3), 12);
        Check.due("value(0, 3)", x.value(0, 3), 12);
        Check.due("value(2, 3)", x.value(2, 3), 12);
        Check.due("value(2, 4)", x.value(2, 4), 0);
    }

    private static void effects() {
        BehaviorRunner x = Check.with("s(=0:7,=1+12,=2-3,a03:99,a14+5,f(x05-9,a0))");
        x.set(0, 100);
        x.set(1, 100);
        x.set(2, 100);
        Check.due("tick", x.tick(99), Check.RUNNING);
        Check.due("made", x.value(-1, 0), 7);
        Check.due("added", x.value(-1, 1), 112);
        Check.due("subtracted", x.value(-1, 2), 97);
        Check.due("by an action", x.value(-1, 3), 99);
        Check.due("by a running action", x.value(-1, 4), 0);
        Check.due("tick", x.tick(99), Check.SUCCESS);
        Check.due("by the action when it succeeds", x.value(-1, 4), 5);
        Check.due("by a failing action before it fails", x.value(-1, 5), -9);
    }

    private static void effectsStayInRange() {
        BehaviorRunner x = Check.with("s(=0+99,=1-99)");
        x.set(0, 950);
        x.set(1, -950);
        x.tick(9);
        Check.due("greatest value", x.value(-1, 0), 999);
        Check.due("least value", x.value(-1, 1), -999);
        x.tick(9);
        Check.due("greatest value again", x.value(-1, 0), 999);
        Check.due("least value again", x.value(-1, 1), -999);
        x.set(0, 900);
        x.set(1, -900);
        x.tick(9);
        Check.due("just the greatest", x.value(-1, 0), 999);
        Check.due("just the least", x.value(-1, 1), -999);
        BehaviorRunner y = Check.with("l0s(r9=0+99,a8~0+99)");
        y.run(9);
        Check.due("local value", y.node(0, 11), 891);
        y.run(20);
        Check.due("local value in range", y.node(0, 11), 990);
        BehaviorRunner z = Check.with("l0s(r9=0+99,r9=0+99)");
        z.run(50);
        Check.due("greatest local value", z.node(0, 11), 999);
    }

    private static void compares(String condition, int value, int due) {
        BehaviorRunner x = Check.with("?3" + condition);
        x.set(3, value);
        Check.due("?3" + condition + " with " + value, x.tick(1), due);
        BehaviorRunner y = Check.with("g3" + condition + "a0");
        y.set(3, value);
        Check.due("g3" + condition + " with " + value, y.tick(9), due);
    }

    private static void conditions() {
        for (int value = 11; value <= 13; value++) {
            compares("<12", value, value < 12 ? Check.SUCCESS : Check.FAILURE);
            compares("=12", value, value == 12 ? Check.SUCCESS : Check.FAILURE);
            compares(">12", value, value > 12 ? Check.SUCCESS : Check.FAILURE);
        }
        compares("<0", -1, Check.SUCCESS);
        compares(">0", -1, Check.FAILURE);
        compares("=0", 0, Check.SUCCESS);
    }

    private static void nearestScope() {
        BehaviorRunner x = Check.with("l0l1l0s(=0:5,=1:6,=2:7,l0=0:9)");
        Check.due("tick", x.tick(99), Check.SUCCESS);
        Check.due("local values", Check.nodes(x, 11), "0 6 5 0 0 0 0 9 0");
        Check.due("global 0", x.value(-1, 0), 0);
        Check.due("global 1", x.value(-1, 1), 0);
        Check.due("global 2", x.value(-1, 2), 7);
        Check.due("value of 0 for node 4", x.value(4, 0), 5);
        Check.due("value of 1 for node 4", x.value(4, 1), 6);
        Check.due("value of 2 for node 4", x.value(4, 2), 7);
        Check.due("value of 0 for node 8", x.value(8, 0), 9);
    }

    private static void scopeBelongsToThoseBelow() {
        BehaviorRunner x = Check.with("s(l0=0:5,?0=0,=0:3)");
        Check.due("tick", x.tick(99), Check.SUCCESS);
        Check.due("for the scope", x.value(1, 0), 3);
        Check.due("for its child", x.value(2, 0), 5);
        Check.due("beside the scope", x.value(3, 0), 3);
        BehaviorRunner y = Check.with("l0l0=0:5");
        y.set(0, 8);
        y.tick(99);
        Check.due("for the outer scope", y.value(0, 0), 8);
        Check.due("for the inner scope", y.value(1, 0), 0);
        Check.due("for the effect", y.value(2, 0), 5);
    }

    private static void idleScopeKeepsItsValue() {
        BehaviorRunner x = Check.with("l0s(?0=0,=0+4)");
        x.set(0, 70);
        Check.due("for a child before the first run", x.value(1, 0), 0);
        Check.due("tick", x.tick(99), Check.SUCCESS);
        Check.due("for a child after the run", x.value(1, 0), 4);
        Check.due("the next run begins with 0", x.tick(99), Check.SUCCESS);
        Check.due("for a child after the next run", x.value(1, 0), 4);
        x.tick(1);
        Check.due("at the beginning of a run", x.value(1, 0), 0);
        BehaviorRunner y = Check.with("l3s(=3+4,a9~3+1)");
        y.tick(99);
        y.tick(99);
        Check.due("in one run", y.node(0, 11), 4);
        y.abort();
        Check.due("after an abort", y.node(0, 11), 5);
        Check.due("state after an abort", y.node(0, 3), 0);
    }

    private static void conditionsOfGuardsAndEndsUseScopes() {
        BehaviorRunner x = Check.with("l0s(=0:1,g0=1a1~0+5)");
        Check.due("tick", x.tick(99), Check.RUNNING);
        Check.due("tick", x.tick(99), Check.SUCCESS);
        Check.due("local value after the end", x.node(0, 11), 6);
        Check.due("global value after the end", x.value(-1, 0), 0);
    }
}
