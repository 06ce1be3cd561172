import java.util.ArrayList;
import java.util.List;
import java.util.Random;

/**
 * Promises 2 to 20 without a model. What an object answers after all kinds of calls, other trees and wrong texts among
 * them, is what its twin answers: a new object, which is given only those calls that the document lets count.
 */
final class TwinTest {
    private static final int ROUNDS = 1200;
    private static final int LIMIT = 512;
    // What one step costs at most: a text of 70 characters, its reading, and a call more.
    private static final int DEAREST_STEP = 72;

    private static final String[] TREES = {
        "a0", "x2~1:7", "=0+5", "?0<3", "!a1", "l0a3~0+1", "r3a1~0+1", "t3x1~0-1", "w2a5~1+1", "g0<5a9~2+1",
        "s(a1~0+1,?0>1,=1+1,x0)", "f(x1~0+1,?0>3,a2~1-9)", "S(?0<5,a2~0+3,a3~1+1,a1)", "F(?0>5,x2~0+3,x3~1+1,x9~2+2)",
        "p2(a1,x2,a3~0+9,a9~1+1)", "p0(a1~0+1,a2~1+1)", "p9(a1~0+1,x2)", "p1(r9a0,t9x1~0+1,x0)",
        "l1s(=1+2,l1s(=1+3,a2~1+5),?1<99)", "S(g0=0s(a1,=0:1),F(?1=0,w3p2(a9~2+1,a9~2-2)))",
        "r9s(=0+99,l0!f(?0>0,x1~0-7),a1)", "t5!S(?3<9,a1~3+5,g3<6a2~3:0)", "w5r9p1(x1~0+1,s(=0-9,a1~0-99))",
        "F(g2>0p1(a3,a9~2:0),s(=2+1,a1),l2a0)", "!!!!!!!!!a1~7-99", "p3(l4a1~4+1,l5a2~5+1,l6x0~6+1,a9~7+1)",
    };
    private static final String[] WRONG_TEXTS = {
        "", "s", "s(", "s(a0", "s(a0,)", "a", "a0a0", "r0a0", "l8a0", "a08:1", "a0~", "?0:1", "=0<1", "g0<100a0", "p(a0)",
        "!!!!!!!!!!a0", "a0,", "a0 ", " a0", "p2(a0,a0,a0,a0,a0,a0,a0,a0,a0,a0,a0,a0,a0,a0,a0,a0,a0,a0,a0)a0",
    };

    private enum Kind { SET, TICK, RUN, ABORT }

    /** A call that counts, with what it answered. */
    private record Call(Kind kind, int first, int second, int answer) {
    }

    // The seed is fixed, so that each run makes the same calls.
    private static final Random random = new Random(9);

    private static BehaviorRunner runner;
    private static int used;
    private static String tree;
    private static int nodes;
    private static int[] globals;
    private static List<Call> past;
    private static List<Call> kept;
    private static String story;

    public static void main(String[] args) {
        for (int i = 0; i < ROUNDS; i++) {
            runner = new BehaviorRunner();
            used = 0;
            story = "";
            globals = new int[8];
            readAnother(TREES[i % TREES.length]);
            int steps = 10 + random.nextInt(120);
            for (int j = 0; j < steps && used + DEAREST_STEP + costOfState() < LIMIT; j++) {
                step();
            }
            Check.due("state after" + story, Check.state(runner), Check.state(twin()));
        }
        Check.end();
    }

    /** The calls of Check.state: 12 properties, 10 counts, 8 keys, the visits under way, and the trace. */
    private static int costOfState() {
        return 12 * (nodes + 1) + 10 + 8 + 1 + 21 + 61;
    }

    private static void tell(String call) {
        story = story + " " + call;
        used++;
    }

    private static void step() {
        switch (random.nextInt(20)) {
            case 0: case 1: case 2: case 3: case 4: case 5: case 6:
                count(Kind.TICK, 1 + random.nextInt(random.nextInt(3) == 0 ? 24 : 4), 0);
                break;
            case 7:
                count(Kind.RUN, 1 + random.nextInt(random.nextInt(3) == 0 ? 50 : 4), 0);
                break;
            case 8: case 9:
                count(Kind.SET, random.nextInt(4), random.nextInt(3) == 0 ? random.nextInt(1999) - 999 : random.nextInt(7));
                break;
            case 10:
                count(Kind.ABORT, 0, 0);
                break;
            case 11: case 12:
                look();
                break;
            case 13:
                save();
                break;
            case 14: case 15:
                restore();
                break;
            case 16:
                readWrong();
                break;
            case 17:
                if (random.nextInt(3) == 0) {
                    globals = globalsOf(twin());
                    readAnother(TREES[random.nextInt(TREES.length)]);
                }
                break;
            default:
                refuse();
                break;
        }
    }

    private static void count(Kind kind, int first, int second) {
        tell(kind + " " + first + " " + second);
        past.add(new Call(kind, first, second, make(runner, kind, first, second)));
    }

    private static int make(BehaviorRunner one, Kind kind, int first, int second) {
        switch (kind) {
            case SET: return one.set(first, second);
            case TICK: return one.tick(first);
            case RUN: return one.run(first);
            default: return one.abort();
        }
    }

    /** A new object with the tree and the calls that count; each must answer it as it answered the other one. */
    private static BehaviorRunner twin() {
        BehaviorRunner one = new BehaviorRunner();
        for (int key = 0; key < globals.length; key++) {
            one.set(key, globals[key]);
        }
        Check.read(one, tree);
        for (int i = 0; i < past.size(); i++) {
            Call call = past.get(i);
            Check.due("call " + i + " that counts of" + story, call.answer,
                    make(one, call.kind, call.first, call.second));
        }
        return one;
    }

    private static int[] globalsOf(BehaviorRunner one) {
        int[] values = new int[8];
        for (int key = 0; key < values.length; key++) {
            values[key] = one.value(-1, key);
        }
        return values;
    }

    private static void readAnother(String text) {
        used += text.length();
        nodes = Check.read(runner, text);
        tell("read " + text);
        Check.due("nodes" + story, nodes, runner.count(0));
        used++;
        tree = text;
        past = new ArrayList<>();
        kept = null;
    }

    private static void readWrong() {
        String text = WRONG_TEXTS[random.nextInt(WRONG_TEXTS.length)];
        used += text.length();
        tell("read " + text);
        Check.due("it is refused" + story, Check.read(runner, text) <= -2000 ? 1 : 0, 1);
    }

    private static void save() {
        tell("save");
        runner.save();
        kept = new ArrayList<>(past);
    }

    private static void restore() {
        tell("restore");
        boolean restored = runner.restore() != Check.NONE;
        Check.due("there is a snapshot" + story, restored ? 1 : 0, kept == null ? 0 : 1);
        past = kept == null ? past : new ArrayList<>(kept);
    }

    /** What only looks: it changes nothing, and foresees what the twin then does. */
    private static void look() {
        switch (random.nextInt(4)) {
            case 0:
                tell("write");
                Check.due("length" + story, runner.write(), tree.length());
                break;
            case 1:
                tell("ticksToGo");
                Check.due("ticks to go" + story, runner.ticksToGo(), ticksOf(twin()));
                break;
            default:
                tell("foresee");
                Check.due("foreseen" + story, runner.foresee(), twin().tick(999));
                break;
        }
    }

    private static int ticksOf(BehaviorRunner one) {
        for (int ticks = 1; ticks <= 50; ticks++) {
            if (one.tick(999) != Check.RUNNING) {
                return ticks;
            }
        }
        return 0;
    }

    private static void refuse() {
        switch (random.nextInt(7)) {
            case 0: refused("tick(0)", runner.tick(0)); break;
            case 1: refused("tick(1000)", runner.tick(1000)); break;
            case 2: refused("run(0)", runner.run(0)); break;
            case 3: refused("run(51)", runner.run(51)); break;
            case 4: refused("set(8, 0)", runner.set(8, 0)); break;
            case 5: refused("set(0, 1000)", runner.set(0, 1000)); break;
            default: refused("append(128, 1)", runner.append(128, 1)); break;
        }
    }

    private static void refused(String call, int answer) {
        tell(call);
        Check.due("refused" + story, answer, Check.BAD_ARGUMENT);
    }
}
