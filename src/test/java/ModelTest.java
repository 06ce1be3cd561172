import java.util.ArrayList;
import java.util.List;
import java.util.Random;

/**
 * Promises 3 to 20: random trees and random calls, each answer compared with the model's. Every third tree is one of
 * the edges, where numbers, keys, values and budgets are the least and the greatest ones and those beside them.
 */
final class ModelTest {
    private static final String LETTERS = "ax?=sfSFp!rtgwl";
    private static final int TREES = 4500;
    private static final int[] EDGES_OF_VALUES = {-999, -998, -900, -99, -1, 0, 1, 99, 900, 998, 999};

    // The seed is fixed, so that each run makes the same trees and calls.
    private static final Random random = new Random(20);

    private static List<Model.Node> nodes;
    private static StringBuilder text;
    private static int allowed;
    private static BehaviorRunner runner;
    private static Model model;
    private static String story;
    private static boolean edges;

    public static void main(String[] args) {
        for (int i = 0; i < TREES; i++) {
            edges = i % 3 == 0;
            makeTree();
            runner = new BehaviorRunner();
            model = new Model(nodes);
            story = text.toString();
            Check.due("readTree of " + story, Check.read(runner, story), nodes.size());
            Check.due("write of " + story, runner.write(), story.length());
            int calls = 10 + random.nextInt(60);
            for (int j = 0; j < calls; j++) {
                change();
                ask();
            }
            askAll();
        }
        Check.end();
    }

    private static void makeTree() {
        do {
            nodes = new ArrayList<>();
            text = new StringBuilder();
            allowed = 1 + random.nextInt(24);
            grow(null, 1);
        } while (text.length() > 70 || nodes.size() > 24);
    }

    private static void grow(Model.Node parent, int depth) {
        allowed--;
        int kind = depth >= 10 || allowed < 1 ? random.nextInt(4) : depth < 3 ? 4 + random.nextInt(11) : random.nextInt(15);
        int number = numberOf(kind);
        text.append(LETTERS.charAt(kind));
        if (number >= 0) {
            text.append(number);
        }
        int[] condition = kind == 2 || kind == 12 ? clause("<=>") : null;
        int[] effect = kind == 3 || kind < 2 && random.nextInt(3) == 0 ? clause(":+-") : null;
        int[] end = null;
        if (kind < 2 && random.nextInt(2) == 0) {
            text.append('~');
            end = clause(":+-");
        }
        Model.Node node = new Model.Node(kind, Math.max(number, 0), condition, effect, end);
        node.index = nodes.size();
        node.parent = parent;
        nodes.add(node);
        if (parent != null) {
            parent.children.add(node);
        }
        if (kind >= 9) {
            grow(node, depth + 1);
        } else if (kind >= 4) {
            text.append('(');
            int children = 1 + random.nextInt(4);
            for (int i = 0; i < children; i++) {
                text.append(i == 0 ? "" : ",");
                grow(node, depth + 1);
            }
            text.append(')');
        }
    }

    private static int oneOf(int... numbers) {
        return numbers[random.nextInt(numbers.length)];
    }

    private static int numberOf(int kind) {
        if (edges) {
            return edgeNumberOf(kind);
        }
        switch (kind) {
            case 0: case 1: return random.nextInt(random.nextInt(4) == 0 ? 10 : 3);
            case 8: return random.nextInt(4);
            case 10: case 11: return 1 + random.nextInt(random.nextInt(3) == 0 ? 9 : 3);
            case 13: return random.nextInt(5);
            case 14: return random.nextInt(3);
            default: return -1;
        }
    }

    private static int edgeNumberOf(int kind) {
        switch (kind) {
            case 0: case 1: return oneOf(0, 0, 1, 8, 9);
            case 8: return oneOf(0, 1, 2, 3, 8, 9);
            case 10: case 11: return oneOf(1, 2, 8, 9);
            case 13: return oneOf(0, 1, 8, 9);
            case 14: return oneOf(0, 7);
            default: return -1;
        }
    }

    private static int anyKey() {
        return edges ? oneOf(0, 7) : random.nextInt(3);
    }

    private static int[] clause(String signs) {
        int number = edges ? oneOf(0, 1, 98, 99) : random.nextInt(random.nextInt(9) == 0 ? 100 : 4);
        int[] clause = {anyKey(), signs.charAt(random.nextInt(3)), number};
        text.append(clause[0]).append((char) clause[1]).append(clause[2]);
        return clause;
    }

    private static void same(String call, int got, int want) {
        story = story + " " + call;
        Check.due(story, got, want);
    }

    private static void change() {
        int budget = edges ? oneOf(1, 2, 3, 23, 24, 998, 999) : 1 + random.nextInt(random.nextInt(3) == 0 ? 30 : 5);
        int ticks = edges ? oneOf(1, 2, 49, 50) : budget;
        switch (random.nextInt(16)) {
            case 0:
                same("run(" + ticks + ")", runner.run(ticks), model.run(ticks));
                break;
            case 1:
                if (random.nextInt(3) == 0) {
                    same("abort()", runner.abort(), model.abort());
                }
                break;
            case 2:
                same("save()", runner.save(), model.save());
                break;
            case 3:
                same("restore()", runner.restore(), model.restore());
                break;
            case 4: case 5: case 6:
                int key = anyKey();
                int value = random.nextInt(9) == 0 ? random.nextInt(1999) - 999 : random.nextInt(5);
                value = edges ? oneOf(EDGES_OF_VALUES) : value;
                same("set(" + key + ", " + value + ")", runner.set(key, value), model.set(key, value));
                break;
            default:
                same("tick(" + budget + ")", runner.tick(budget), model.tick(budget));
                break;
        }
    }

    private static void ask() {
        int node = random.nextInt(nodes.size());
        int what = random.nextInt(12);
        int key = anyKey();
        switch (random.nextInt(8)) {
            case 0:
                same("foresee()", runner.foresee(), model.foresee());
                break;
            case 1:
                same("ticksToGo()", runner.ticksToGo(), model.ticksToGo());
                break;
            case 2:
                same("pending()", runner.pending(), model.pending());
                break;
            case 3:
                same("underWay(" + what + ")", runner.underWay(what), model.underWay(what));
                break;
            case 4:
                same("value(" + node + ", " + key + ")", runner.value(node, key), model.value(node, key));
                break;
            case 5:
                same("count(" + what % 10 + ")", runner.count(what % 10), model.count(what % 10));
                break;
            case 6:
                same("trace(" + what + ", " + key % 2 + ")", runner.trace(what, key % 2), model.trace(what, key % 2));
                break;
            default:
                same("node(" + node + ", " + what + ")", runner.node(node, what), model.node(node, what));
                break;
        }
    }

    /** All answers in the end. With the calls before, an object still has less than 512 of them. */
    private static void askAll() {
        for (int what = 0; what <= 9; what++) {
            Check.due(story + " count " + what, runner.count(what), model.count(what));
        }
        for (int key : edges ? new int[] {0, 7} : new int[] {0, 1, 2}) {
            Check.due(story + " value " + key, runner.value(-1, key), model.value(-1, key));
        }
        for (int i = 0; i < nodes.size(); i++) {
            for (int what = 3; what <= 11; what++) {
                Check.due(story + " node " + i + " " + what, runner.node(i, what), model.node(i, what));
            }
        }
        for (int i = 0; i < 31; i++) {
            Check.due(story + " trace " + i, runner.trace(i, 0), model.trace(i, 0));
            Check.due(story + " trace " + i, runner.trace(i, 1), model.trace(i, 1));
        }
        for (int i = 0; i < 10; i++) {
            Check.due(story + " underWay " + i, runner.underWay(i), model.underWay(i));
        }
        Check.due(story + " pending", runner.pending(), model.pending());
    }
}
