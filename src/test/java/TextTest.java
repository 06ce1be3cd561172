/** Promises 2 append, 3 readTree, 17 write and 18 written. */
final class TextTest {
    public static void main(String[] args) {
        append();
        readErrors();
        readLimits();
        everyNodeAddsDepth();
        readReplaces();
        eachTreeBeginsAfresh();
        failedReadChangesNothing();
        everyKindIsRead();
        writeGivesTheSame();
        writtenStays();
        Check.end();
    }

    private static void append() {
        BehaviorRunner x = new BehaviorRunner();
        Check.due("append(-1, 1)", x.append(-1, 1), Check.BAD_ARGUMENT);
        Check.due("append(128, 1)", x.append(128, 1), Check.BAD_ARGUMENT);
        Check.due("append(97, 0)", x.append(97, 0), Check.BAD_ARGUMENT);
        Check.due("append(97, -5)", x.append(97, -5), Check.BAD_ARGUMENT);
        Check.due("append(97, 71)", x.append(97, 71), Check.BAD_ARGUMENT);
        Check.due("append(least, least)", x.append(Integer.MIN_VALUE, Integer.MIN_VALUE), Check.BAD_ARGUMENT);
        Check.due("append(97, greatest)", x.append(97, Integer.MAX_VALUE), Check.BAD_ARGUMENT);
        Check.due("length after errors", x.count(10), 0);
        Check.due("append(0, 1)", x.append(0, 1), 1);
        Check.due("append(127, 68)", x.append(127, 68), 69);
        Check.due("append(97, 2)", x.append(97, 2), Check.FULL);
        Check.due("append(128, 70)", x.append(128, 70), Check.BAD_ARGUMENT);
        Check.due("append(97, 71) when full", x.append(97, 71), Check.BAD_ARGUMENT);
        Check.due("length after FULL", x.count(10), 69);
        Check.due("append(97, 1)", x.append(97, 1), 70);
        Check.due("append(97, 1) when full", x.append(97, 1), Check.FULL);
        Check.due("readTree", x.readTree(), -2000);
        Check.due("length after readTree", x.count(10), 0);
        Check.due("append(97, 70)", x.append(97, 70), 70);
    }

    private static void fails(String text, int offset) {
        BehaviorRunner x = new BehaviorRunner();
        Check.due("readTree of " + text, Check.read(x, text), -2000 - offset);
        Check.due("length after " + text, x.count(10), 0);
        Check.due("nodes after " + text, x.count(0), 0);
    }

    private static void reads(String text, int nodes) {
        Check.due("readTree of " + text, Check.read(new BehaviorRunner(), text), nodes);
    }

    private static void readErrors() {
        fails("", 0);
        fails(" a0", 0);
        fails("A0", 0);
        fails("\u0000a0", 0);
        fails("a", 1);
        fails("aa", 1);
        fails("a0,", 2);
        fails("a0 ", 2);
        fails("a0a0", 2);
        fails("a08", 2);
        fails("a09", 2);
        fails("a07", 3);
        fails("a07=", 3);
        fails("a07<1", 3);
        fails("a07:", 4);
        fails("a07:~", 4);
        fails("a07:123", 6);
        fails("a07:12:", 6);
        fails("a0~", 3);
        fails("a0~8:1", 3);
        fails("a0~1:1~2:1", 6);
        fails("a0~1:1,", 6);
        fails("x0~1>1", 4);
        fails("x", 1);
        fails("?", 1);
        fails("?8<1", 1);
        fails("?0", 2);
        fails("?0:1", 2);
        fails("?0<", 3);
        fails("?0<x", 3);
        fails("?0<1~1:1", 4);
        fails("?0<123", 5);
        fails("=8:1", 1);
        fails("=0<1", 2);
        fails("=0:", 3);
        fails("=0:1~1:1", 4);
        fails("s", 1);
        fails("s0(", 1);
        fails("sa0", 1);
        fails("s(", 2);
        fails("s()", 2);
        fails("s(,", 2);
        fails("s(a0", 4);
        fails("s(a0,", 5);
        fails("s(a0,)", 5);
        fails("s(a0;a0)", 4);
        fails("s(a0))", 5);
        fails("f()", 2);
        fails("S()", 2);
        fails("F()", 2);
        fails("p(a0)", 1);
        fails("p", 1);
        fails("p0", 2);
        fails("p00(a0)", 2);
        fails("p1a0", 2);
        fails("p1()", 3);
        fails("!", 1);
        fails("!0a0", 1);
        fails("!a0,", 3);
        fails("!(a0)", 1);
        fails("r", 1);
        fails("r0a0", 1);
        fails("ra0", 1);
        fails("r1", 2);
        fails("r10", 2);
        fails("t0a0", 1);
        fails("t9", 2);
        fails("w", 1);
        fails("wa0", 1);
        fails("w0", 2);
        fails("w99a0", 2);
        fails("g", 1);
        fails("g8<1a0", 1);
        fails("g0:1a0", 2);
        fails("g0<1", 4);
        fails("g0<12", 5);
        fails("g0<123a0", 5);
        fails("l", 1);
        fails("l8a0", 1);
        fails("l0", 2);
        fails("l00", 2);
        fails("s(a1,!x2~7:9 )", 12);
    }

    /** Three children of seven nodes each. */
    private static final String CHAINS = "!!!!!!a0,!!!!!!a0,!!!!!!a0,";

    private static void readLimits() {
        reads("!!!!!!!!!a0", 10);
        fails("!!!!!!!!!!", 10);
        fails("!!!!!!!!!!a0", 10);
        fails("!!!!!!!!!!q", 10);
        fails("!!!!!!!!!", 9);
        fails("!!!!!!!!!q", 9);
        reads("!!!!!!!!s(a0)", 10);
        fails("!!!!!!!!!s(a0)", 11);
        fails("!!!!!!!!!s(", 11);
        fails("s(!!!!!!!!a0,!!!!!!!!!a0)", 22);
        reads("s(" + CHAINS + "!a0)", 24);
        fails("s(" + CHAINS + "!a0,", 33);
        fails("s(" + CHAINS + "!a0,a0)", 33);
        fails("s(" + CHAINS + "!a0,q)", 33);
        fails("s(" + CHAINS + "!a0;", 32);
        fails("s(" + CHAINS + "!!a0)", 31);
        fails("s(" + CHAINS + "!!q)", 31);
        fails("s(" + CHAINS + "!!", 31);
        fails("s(" + CHAINS + "!!)", 31);
        fails("s(" + list(22) + "," + "a", 69);
        fails("s(" + list(22) + "," + "a0", 70);
        reads("s(" + list(22) + ")", 23);
        reads("a00:1~7-99", 1);
    }

    /** Some actions, with commas between. */
    private static String list(int actions) {
        StringBuilder text = new StringBuilder();
        for (int i = 0; i < actions; i++) {
            text.append(i == 0 ? "a0" : ",a0");
        }
        return text.toString();
    }

    private static void everyNodeAddsDepth() {
        for (String one : new String[] {"!", "r9", "t1", "w0", "l7", "g7>99", "s(", "f(", "S(", "F(", "p0("}) {
            String close = one.endsWith("(") ? ")" : "";
            reads(one + "!!!!!!!!a0" + close, 10);
            fails(one + "!!!!!!!!!a0" + close, one.length() + 9);
            fails("!!!!!!!!!" + one + "a0" + close, one.length() + 9);
        }
    }

    private static void readReplaces() {
        BehaviorRunner x = Check.with("s(=0:4,l1s(=1:3,a5~2:9))");
        x.set(7, -3);
        x.tick(999);
        x.tick(2);
        Check.due("suspended before readTree", x.pending() >= 0 ? 1 : 0, 1);
        Check.due("readTree", Check.read(x, "s(a1,l0a1)"), 4);
        Check.due("ends of the tree before", x.value(-1, 2), 0);
        Check.due("global 0 stays", x.value(-1, 0), 4);
        Check.due("global 7 stays", x.value(-1, 7), -3);
        Check.due("pending", x.pending(), Check.NONE);
        Check.due("underWay", x.underWay(0), Check.NONE);
        Check.due("trace", x.trace(0, 0), Check.NONE);
        Check.due("nodes", x.count(0), 4);
        for (int what = 1; what <= 10; what++) {
            Check.due("count " + what + " after readTree", x.count(what), 0);
        }
        for (int what = 5; what <= 9; what++) {
            Check.due("property " + what + " after readTree", Check.nodes(x, what), "0 0 0 0");
        }
        Check.due("states after readTree", Check.nodes(x, 3), "0 0 0 0");
        Check.due("local values after readTree", Check.nodes(x, 11), "0 0 0 0");
        Check.due("tick", x.tick(999), Check.RUNNING);
        Check.due("a tree of the same shape", Check.read(x, "s(a1,l0a1)"), 4);
        Check.due("states after the same text", Check.nodes(x, 3), "0 0 0 0");
        Check.due("its first tick", x.tick(999), Check.RUNNING);
        Check.due("a smaller tree", Check.read(x, "a1"), 1);
        Check.due("node 1 of the smaller tree", x.node(1, 0), Check.NONE);
        Check.due("children of the smaller tree", x.node(0, 2), 0);
        Check.due("child of the smaller tree", x.child(0, 0), Check.NONE);
    }

    /** Some trees one after another: the last one is as if it were the only one. */
    private static void eachTreeBeginsAfresh() {
        String[] texts = {"p3(a30:1~1:2,l3=3:4,x0~2:1,!a9)", "s(a1,a0,r3a0,f(x0,a2~0+1))", "a0", "S(l1a4,x1)", "f(x0,p1(x0,x0))"};
        for (String first : texts) {
            for (String second : texts) {
                for (String third : texts) {
                    BehaviorRunner x = new BehaviorRunner();
                    use(x, first);
                    use(x, second);
                    Check.read(x, third);
                    BehaviorRunner y = Check.with(third);
                    String order = first + " " + second + " " + third;
                    Check.due("write of " + order, x.write(), third.length());
                    Check.due("written of " + order, Check.written(x), third);
                    Check.due("tick of " + order, x.tick(3), y.tick(3));
                    Check.due("state of " + order, Check.state(x), Check.state(y));
                }
            }
        }
    }

    private static void use(BehaviorRunner x, String text) {
        Check.read(x, text);
        x.run(2);
        x.abort();
        x.run(9);
        x.tick(3);
        for (int key = 0; key < 4; key++) {
            x.set(key, 0);
        }
    }

    private static void failedReadChangesNothing() {
        BehaviorRunner x = Check.with("s(a1~0+1,a1)");
        x.tick(999);
        x.tick(1);
        x.save();
        x.write();
        String before = Check.state(x);
        Check.due("a wrong text", Check.read(x, "s(a0,a0,a0"), -2010);
        Check.due("state after a wrong text", Check.state(x), before);
        Check.due("written after a wrong text", Check.written(x), "s(a1~0+1,a1)");
        Check.due("restore after a wrong text", x.restore(), 3);
        Check.due("tick after a wrong text", x.tick(999), Check.RUNNING);
    }

    private static void everyKindIsRead() {
        BehaviorRunner x = Check.with("s(f(a9,x8),S(?0<5,=7+12),F(p3(a0),!a0),r9a0,t1a0,g2>1a0,w0a0,l6a0)");
        Check.due("kinds", Check.nodes(x, 0), "4 5 0 1 6 2 3 7 8 0 9 0 10 0 11 0 12 0 13 0 14 0");
        Check.due("numbers", Check.nodes(x, 4), "0 0 9 8 0 0 0 0 3 0 0 0 9 0 1 0 0 0 0 0 6 0");
        Check.due("above", Check.nodes(x, 1), "-1 0 1 1 0 4 4 0 7 8 7 10 0 12 0 14 0 16 0 18 0 20");
    }

    private static void writes(String text, String due) {
        BehaviorRunner x = Check.with(text);
        Check.due("write of " + text, x.write(), due.length());
        Check.due("written of " + text, Check.written(x), due);
        Check.due("reading what was written of " + text, Check.read(x, due), Check.with(text).count(0));
    }

    private static void writeGivesTheSame() {
        writes("a0", "a0");
        writes("x90:1~7-99", "x90:1~7-99");
        writes("a30:05~1+00", "a30:5~1+0");
        writes("?7=09", "?7=9");
        writes("=0:10", "=0:10");
        writes("=0:00", "=0:0");
        writes("g3>07g4<90a5~1:02", "g3>7g4<90a5~1:2");
        writes("a4~1:20", "a4~1:20");
        writes("x41:20", "x41:20");
        writes("s(f(a9,x8),S(?0<5,=7+12),F(p3(a0),!a0),r9a0,t1a0,g2>1a0,w0a0,l6a0)",
                "s(f(a9,x8),S(?0<5,=7+12),F(p3(a0),!a0),r9a0,t1a0,g2>1a0,w0a0,l6a0)");
        writes("s(f(S(F(p0(r1t9w0l7a0)))),a1)", "s(f(S(F(p0(r1t9w0l7a0)))),a1)");
        writes("s(s(s(a0),a1,s(a2,a3)),!s(!a4),a5)", "s(s(s(a0),a1,s(a2,a3)),!s(!a4),a5)");
        writes("s(" + list(22) + ")", "s(" + list(22) + ")");
        writes("s(" + CHAINS + "!a0)", "s(" + CHAINS + "!a0)");
    }

    private static void writtenStays() {
        BehaviorRunner x = Check.with("s(a0,a1)");
        Check.due("written before write", x.written(0), Check.NONE);
        Check.due("write", x.write(), 8);
        Check.due("written(-1)", x.written(-1), Check.NONE);
        Check.due("written(least)", x.written(Integer.MIN_VALUE), Check.NONE);
        Check.due("written(0)", x.written(0), 's');
        Check.due("written(7)", x.written(7), ')');
        Check.due("written(8)", x.written(8), Check.NONE);
        Check.due("written(greatest)", x.written(Integer.MAX_VALUE), Check.NONE);
        Check.read(x, "a5");
        Check.due("written after another tree", Check.written(x), "s(a0,a1)");
        Check.due("write of the other tree", x.write(), 2);
        Check.due("written of the other tree", Check.written(x), "a5");
        x.tick(1);
        String before = Check.state(x);
        x.write();
        Check.due("state after write", Check.state(x), before);
    }
}
