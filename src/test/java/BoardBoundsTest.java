/** The boundary cases of the blackboard: keys, values and scopes, and promises 4 set and 5 value. */
final class BoardBoundsTest {
    private static final int[] VALUES = {-999, -998, -901, -900, -899, -99, -1, 0, 1, 99, 899, 900, 901, 998, 999};

    public static void main(String[] args) {
        eightKeys();
        aNinthKeyIsRefused();
        globalsAreZeroAtFirst();
        nearestOfManyScopes();
        onlyScopesAbove();
        aScopeForEachKey();
        idleScopes();
        valuesForAScopeItself();
        effectsStayInRange();
        localValuesStayInRange();
        aValueAtTheLimitGoesOnFromThere();
        effectsThatMakeANumber();
        comparisons();
        keysOfSet();
        valuesOfSet();
        previousValue();
        setLeavesScopes();
        keysOfValue();
        nodesOfValue();
        Check.end();
    }

    private static void eightKeys() {
        Check.sentence("There are 8 keys, numbered from 0.");
        BehaviorRunner x = new BehaviorRunner();
        for (int key = 0; key <= 7; key++) {
            Check.due("set of key " + key, x.set(key, 100 + key), 0);
        }
        Check.due("values", Check.globals(x), "100 101 102 103 104 105 106 107");
        for (int key = 0; key <= 7; key++) {
            BehaviorRunner y = Check.with("s(=" + key + ":9,?" + key + "=9,g" + key + "=9a0" + key + "+1,l" + key + "a0)");
            Check.due("tick with key " + key, y.tick(99), Check.SUCCESS);
            Check.due("value of key " + key, y.value(-1, key), 10);
            Check.due("key of the scope", y.node(5, 4), key);
            Check.due("other keys", y.value(-1, (key + 1) % 8) + y.value(-1, (key + 7) % 8), 0);
        }
    }

    private static void aNinthKeyIsRefused() {
        Check.sentence("A key is a digit from 0 to 7.");
        for (String head : new String[] {"?", "=", "g", "l", "a0", "x0", "a0~", "x0~", "a00:1~"}) {
            for (char key : new char[] {'8', '9'}) {
                int answer = Check.read(new BehaviorRunner(), head + key + "=1a0");
                Check.due("readTree of " + head + key, answer, -2000 - head.length());
            }
        }
    }

    private static void globalsAreZeroAtFirst() {
        Check.sentence("Each has a global value, at first 0.");
        Check.due("values of a new object", Check.globals(new BehaviorRunner()), "0 0 0 0 0 0 0 0");
        for (int key = 0; key <= 7; key++) {
            Check.due("a condition on key " + key, Check.with("?" + key + "=0").tick(1), Check.SUCCESS);
        }
    }

    private static void nearestOfManyScopes() {
        Check.sentence("the local value of the nearest scope with this key among the nodes above it");
        BehaviorRunner x = Check.with("l0l0l0l0l0l0l0l0l0=0:5");
        x.set(0, 3);
        Check.due("tick", x.tick(99), Check.SUCCESS);
        Check.due("local values", Check.nodes(x, 11), "0 0 0 0 0 0 0 0 5 0");
        Check.due("for the node at depth 10", x.value(9, 0), 5);
        Check.due("for the scope above it", x.value(8, 0), 0);
        Check.due("for node 1", x.value(1, 0), 0);
        Check.due("for node 0", x.value(0, 0), 3);
        BehaviorRunner y = Check.with("l0l1!!!!!!!=0:5");
        y.tick(99);
        Check.due("the outermost of two scopes", Check.nodes(y, 11), "5 0 0 0 0 0 0 0 0 0");
        Check.due("its value far below", y.value(9, 0), 5);
    }

    private static void onlyScopesAbove() {
        Check.sentence("or the global value if there is none");
        BehaviorRunner x = Check.with("s(l0=0:5,s(=0+1,l1=0+1),l0=0:6)");
        x.set(0, 20);
        Check.due("tick", x.tick(99), Check.SUCCESS);
        Check.due("scopes beside, below and with another key", x.value(-1, 0), 22);
        Check.due("the global value for these", x.value(4, 0) + x.value(6, 0), 44);
        Check.due("local values", Check.nodes(x, 11), "0 5 0 0 0 0 0 6 0");
    }

    private static void aScopeForEachKey() {
        Check.sentence("A scope is a node that has a local value for one key.");
        BehaviorRunner x = Check.with("l0l1l2l3l4l5l6l7s(=0:1,=1:2,=2:3,=3:4,=4:5,=5:6,=6:7,=7:8)");
        Check.due("tick", x.tick(99), Check.SUCCESS);
        Check.due("local values", Check.nodes(x, 11), "1 2 3 4 5 6 7 8 0 0 0 0 0 0 0 0 0");
        Check.due("global values", Check.globals(x), "0 0 0 0 0 0 0 0");
        for (int key = 0; key <= 7; key++) {
            Check.due("value of key " + key + " below", x.value(16, key), key + 1);
            Check.due("value of key " + key + " for its scope", x.value(key, key), 0);
        }
    }

    private static void idleScopes() {
        Check.sentence("this also holds for a scope that is idle, whose local value is what its last run left, at first 0");
        BehaviorRunner x = Check.with("s(a0,l2s(=2+4,f(?3=0,a9~2+1),?3<2))");
        x.set(2, 70);
        Check.due("before its first run", x.value(3, 2), 0);
        Check.due("tick", x.tick(99), Check.SUCCESS);
        Check.due("after a success", x.value(3, 2), 4);
        x.set(3, 2);
        Check.due("tick", x.tick(99), Check.RUNNING);
        Check.due("abort", x.abort(), 5);
        Check.due("after an abort", x.value(3, 2), 5);
        Check.due("its state", x.node(2, 3), 0);
        Check.due("tick", x.tick(2), Check.SUSPENDED);
        Check.due("just before its next run", x.value(3, 2), 5);
        Check.due("tick", x.tick(1), Check.SUSPENDED);
        Check.due("at the beginning of its next run", x.value(3, 2), 0);
        Check.due("the global value", x.value(-1, 2), 70);
        BehaviorRunner y = Check.after("l2s(=2+4,x0)", 2);
        Check.due("after a failure", y.value(3, 2) * 10 + y.node(0, 3), 40);
        BehaviorRunner z = Check.with("w0l2=2:9");
        z.set(2, 70);
        z.tick(9);
        Check.due("a scope that is never visited", z.value(2, 2), 0);
    }

    private static void valuesForAScopeItself() {
        Check.sentence("For a scope itself, only the nodes above it matter.");
        BehaviorRunner x = Check.after("l5s(=5:1,l5s(=5:2,l5=5:3))", 1);
        x.set(5, -4);
        Check.due("for node 0", x.value(0, 5), -4);
        Check.due("for the scope in its list", x.value(3, 5), 1);
        Check.due("for the innermost scope", x.value(6, 5), 2);
        Check.due("for the child of the innermost", x.value(7, 5), 3);
        Check.due("local values", Check.nodes(x, 11), "1 0 0 2 0 0 3 0");
    }

    private static int nearest(int value) {
        return Math.max(-999, Math.min(999, value));
    }

    private static void effectsStayInRange() {
        Check.sentence("a value that would be beyond is the nearest one of these");
        for (String head : new String[] {"=", "a0", "x0", "a0~", "x0~", "a9~"}) {
            for (int value : VALUES) {
                for (int number : new int[] {0, 1, 98, 99}) {
                    Check.due(head + "+" + number + " with " + value, changed(head + "6+" + number, value), nearest(value + number));
                    Check.due(head + "-" + number + " with " + value, changed(head + "6-" + number, value), nearest(value - number));
                }
            }
        }
    }

    /** The value of key 6 after an effect, which is done by the tick or by the abort behind it. */
    private static int changed(String text, int value) {
        BehaviorRunner x = Check.with(text);
        x.set(6, value);
        x.tick(1);
        x.abort();
        return x.value(-1, 6);
    }

    private static void localValuesStayInRange() {
        Check.sentence("Values are from -999 to 999");
        for (char sign : new char[] {'+', '-'}) {
            BehaviorRunner x = Check.with("l7r9r9=7" + sign + "99");
            for (int i = 1; i <= 80; i++) {
                x.tick(99);
                Check.due("local value after " + i, x.node(0, 11), nearest(sign == '+' ? 99 * i : -99 * i));
            }
            Check.due("value for the node", x.value(3, 7), sign == '+' ? 999 : -999);
            Check.due("tick", x.tick(99), Check.SUCCESS);
            Check.due("the global value", x.value(-1, 7), 0);
        }
        BehaviorRunner y = Check.with("l7s(r9=7+99,r2=7+99,a9~7-99)");
        y.run(11);
        Check.due("local value", y.node(0, 11), 999);
        y.abort();
        Check.due("local value after an end", y.node(0, 11), 900);
    }

    private static void aValueAtTheLimitGoesOnFromThere() {
        Check.sentence("a value that would be beyond is the nearest one of these");
        BehaviorRunner x = Check.with("s(=0+99,=0-99)");
        x.set(0, 950);
        x.tick(9);
        Check.due("beyond and back", x.value(-1, 0), 900);
        BehaviorRunner y = Check.with("a00-99~0+98");
        y.set(0, -950);
        y.tick(9);
        Check.due("an effect beyond, and its end", y.value(-1, 0), -901);
    }

    private static void effectsThatMakeANumber() {
        Check.sentence("An effect makes the value of a key a number");
        String[] numbers = {"0", "00", "1", "01", "9", "09", "10", "98", "99"};
        for (String number : numbers) {
            for (int value : new int[] {-999, -1, 0, 1, 999}) {
                Check.due(":" + number + " with " + value, changed("=6:" + number, value), Integer.parseInt(number));
                Check.due("end :" + number + " with " + value, changed("a3~6:" + number, value), Integer.parseInt(number));
            }
        }
    }

    private static void comparisons() {
        Check.sentence("a condition compares the value of a key with a number by less, equal or greater");
        for (int number : new int[] {0, 1, 9, 10, 98, 99}) {
            for (int value : new int[] {-999, -number, number - 1, number, number + 1, 999}) {
                compares("<" + number, value, value < number);
                compares("=" + number, value, value == number);
                compares(">" + number, value, value > number);
            }
        }
        compares("<00", -1, true);
        compares("=05", 5, true);
        compares(">09", 9, false);
    }

    private static void compares(String condition, int value, boolean fulfilled) {
        int due = fulfilled ? Check.SUCCESS : Check.FAILURE;
        for (String text : new String[] {"?7" + condition, "g7" + condition + "a0"}) {
            BehaviorRunner x = Check.with(text);
            x.set(7, value);
            Check.due(text + " with " + value, x.tick(2), due);
        }
    }

    private static void keysOfSet() {
        Check.sentence("set: key: the key, 0 to 7; BAD_ARGUMENT if an argument is out of range");
        BehaviorRunner x = new BehaviorRunner();
        Check.due("set(0, 5)", x.set(0, 5), 0);
        Check.due("set(7, 6)", x.set(7, 6), 0);
        for (int key : new int[] {-1, 8, 9, Integer.MIN_VALUE, Integer.MAX_VALUE}) {
            Check.due("set(" + key + ", 1)", x.set(key, 1), Check.BAD_ARGUMENT);
            Check.due("set(" + key + ", 1000)", x.set(key, 1000), Check.BAD_ARGUMENT);
        }
        Check.due("values", Check.globals(x), "5 0 0 0 0 0 0 6");
    }

    private static void valuesOfSet() {
        Check.sentence("set: value: the value, -999 to 999; BAD_ARGUMENT if an argument is out of range");
        for (int key : new int[] {0, 7}) {
            BehaviorRunner x = new BehaviorRunner();
            Check.due("set of -999", x.set(key, -999), 0);
            Check.due("value", x.value(-1, key), -999);
            Check.due("set of 999", x.set(key, 999), -999);
            Check.due("value", x.value(-1, key), 999);
            for (int value : new int[] {-1000, 1000, Integer.MIN_VALUE, Integer.MAX_VALUE}) {
                Check.due("set of " + value, x.set(key, value), Check.BAD_ARGUMENT);
                Check.due("value after set of " + value, x.value(-1, key), 999);
            }
            Check.due("set of 0", x.set(key, 0), 999);
        }
    }

    private static void previousValue() {
        Check.sentence("set: Returns the previous value");
        BehaviorRunner x = Check.with("=3-99");
        Check.due("set", x.set(3, -950), 0);
        x.tick(1);
        Check.due("set after an effect", x.set(3, -950), -999);
        Check.due("set of the same", x.set(3, -950), -950);
        Check.due("set before another tree", x.set(3, -1), -950);
        Check.read(x, "a0");
        Check.due("set after another tree", x.set(3, 0), -1);
    }

    private static void setLeavesScopes() {
        Check.sentence("set: Sets a global value.");
        BehaviorRunner x = Check.after("l3s(=3:5,a9)", 1);
        Check.due("set below a running scope", x.set(3, 77), 0);
        Check.due("local value", x.node(0, 11), 5);
        Check.due("value for the node", x.value(3, 3), 5);
        Check.due("value for the scope", x.value(0, 3), 77);
        x.abort();
        Check.due("set with an idle scope", x.set(3, 78), 77);
        Check.due("value for the node", x.value(3, 3), 5);
    }

    private static void keysOfValue() {
        Check.sentence("value: BAD_ARGUMENT if key is out of range");
        BehaviorRunner none = new BehaviorRunner();
        BehaviorRunner x = Check.with("s(a0,a0)");
        for (int key : new int[] {-1, 8, Integer.MIN_VALUE, Integer.MAX_VALUE}) {
            for (int node : new int[] {-1, 0, 2, 3, -2}) {
                Check.due("value(" + node + ", " + key + ")", x.value(node, key), Check.BAD_ARGUMENT);
                Check.due("value(" + node + ", " + key + ") without a tree", none.value(node, key), Check.BAD_ARGUMENT);
            }
        }
        x.set(0, -1);
        x.set(7, -7);
        Check.due("value(2, 0)", x.value(2, 0), -1);
        Check.due("value(2, 7)", x.value(2, 7), -7);
    }

    private static void nodesOfValue() {
        Check.sentence("value: NONE if node is not -1 and there is no such node");
        BehaviorRunner x = new BehaviorRunner();
        x.set(4, 9);
        Check.due("value(-1, 4) without a tree", x.value(-1, 4), 9);
        Check.due("value(0, 4) without a tree", x.value(0, 4), Check.NONE);
        Check.read(x, "a0");
        Check.due("value(0, 4)", x.value(0, 4), 9);
        Check.due("value(1, 4)", x.value(1, 4), Check.NONE);
        Check.read(x, "p1(" + Check.list("!a0", 11) + ",a0)");
        Check.due("value(23, 4)", x.value(23, 4), 9);
        for (int node : new int[] {24, 25, -2, Integer.MIN_VALUE, Integer.MAX_VALUE}) {
            Check.due("value(" + node + ", 4)", x.value(node, 4), Check.NONE);
        }
        Check.read(x, "a0");
        Check.due("value(1, 4) after a smaller tree", x.value(1, 4), Check.NONE);
    }
}
