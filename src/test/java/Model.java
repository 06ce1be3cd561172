import java.util.ArrayDeque;
import java.util.ArrayList;
import java.util.Deque;
import java.util.List;

/**
 * A model of the runner to compare it with, written in another way: visits are recursive, and a suspended
 * tick is played again from its beginning, with what was set in between set again at its place.
 */
final class Model {
    /** A node; what does not change. */
    static final class Node {
        final int kind;
        final int number;
        final int[] condition;
        final int[] effect;
        final int[] end;
        final List<Node> children = new ArrayList<>();
        int index;
        Node parent;

        Node(int kind, int number, int[] condition, int[] effect, int[] end) {
            this.kind = kind;
            this.number = number;
            this.condition = condition;
            this.effect = effect;
            this.end = end;
        }

        int depth() {
            return parent == null ? 1 : parent.depth() + 1;
        }
    }

    /** What changes. */
    private static final class State {
        final boolean[] running = new boolean[24];
        final int[] steps = new int[24];
        final int[] at = new int[24];
        final int[] done = new int[24];
        final int[] local = new int[24];
        final int[][] tallies = new int[5][24];
        final int[] counts = new int[9];
        final int[] globals = new int[8];
        final List<int[]> trace = new ArrayList<>();

        State copy() {
            State copy = new State();
            System.arraycopy(running, 0, copy.running, 0, 24);
            System.arraycopy(steps, 0, copy.steps, 0, 24);
            System.arraycopy(at, 0, copy.at, 0, 24);
            System.arraycopy(done, 0, copy.done, 0, 24);
            System.arraycopy(local, 0, copy.local, 0, 24);
            for (int i = 0; i < tallies.length; i++) {
                System.arraycopy(tallies[i], 0, copy.tallies[i], 0, 24);
            }
            System.arraycopy(counts, 0, copy.counts, 0, counts.length);
            System.arraycopy(globals, 0, copy.globals, 0, globals.length);
            copy.trace.addAll(trace);
            return copy;
        }
    }

    private static final class Suspension extends Exception {
        private static final long serialVersionUID = 1L;
    }

    private final List<Node> nodes;
    private State now = new State();
    private State beforeTick = null;
    private List<int[]> sets = new ArrayList<>();
    private int units = 0;
    private int used = 0;
    private Node next = null;
    private Deque<Node> open = new ArrayDeque<>();
    private Model snapshot = null;

    Model(List<Node> nodes) {
        this.nodes = nodes;
    }

    private Model copy() {
        Model copy = new Model(nodes);
        copy.take(this);
        return copy;
    }

    private void take(Model other) {
        now = other.now.copy();
        beforeTick = other.beforeTick == null ? null : other.beforeTick.copy();
        sets = new ArrayList<>(other.sets);
        units = other.units;
        used = other.used;
        next = other.next;
        open = new ArrayDeque<>(other.open);
    }

    int set(int key, int value) {
        int previous = now.globals[key];
        now.globals[key] = value;
        if (next != null) {
            sets.add(new int[] {used, key, value});
        }
        return previous;
    }

    int tick(int budget) {
        if (next == null) {
            beforeTick = now.copy();
            sets.clear();
            units = 0;
        }
        int suspensions = now.counts[8];
        now = beforeTick.copy();
        units += budget;
        used = 0;
        next = null;
        open.clear();
        try {
            int result = visit(nodes.get(0));
            now.counts[1]++;
            now.counts[2] += result == 2 ? 1 : 0;
            now.counts[3] += result == 3 ? 1 : 0;
            now.counts[8] = suspensions;
            return result;
        } catch (Suspension suspension) {
            now.counts[8] = suspensions + 1;
            return 5;
        }
    }

    int run(int ticks) {
        int result = 1;
        for (int i = 0; i < ticks && result == 1; i++) {
            result = tick(1000);
        }
        return result;
    }

    int foresee() {
        return copy().tick(1000);
    }

    int ticksToGo() {
        Model other = copy();
        for (int i = 1; i <= 50; i++) {
            if (other.tick(1000) != 1) {
                return i;
            }
        }
        return 0;
    }

    int abort() {
        int before = now.counts[5];
        if (now.running[0]) {
            stop(nodes.get(0));
        }
        next = null;
        open.clear();
        return now.counts[5] - before;
    }

    int save() {
        snapshot = copy();
        return nodes.size();
    }

    int restore() {
        if (snapshot == null) {
            return -1001;
        }
        take(snapshot.copy());
        return nodes.size();
    }

    int pending() {
        return next == null ? -1001 : next.index;
    }

    int underWay(int index) {
        int i = 0;
        for (Node node : open) {
            if (next != null && i == index) {
                return node.index;
            }
            i++;
        }
        return -1001;
    }

    int trace(int index, int what) {
        int entries = Math.min(30, now.trace.size());
        return index >= entries ? -1001 : now.trace.get(now.trace.size() - 1 - index)[what];
    }

    int value(int node, int key) {
        return node < 0 ? now.globals[key] : look(nodes.get(node), key);
    }

    int node(int index, int what) {
        Node node = nodes.get(index);
        switch (what) {
            case 0: return node.kind;
            case 1: return node.parent == null ? -1 : node.parent.index;
            case 2: return node.children.size();
            case 3: return now.running[index] ? 1 : 0;
            case 4: return node.number;
            case 10: return node.depth();
            case 11: return node.kind == 14 ? now.local[index] : 0;
            default: return now.tallies[what - 5][index];
        }
    }

    int count(int what) {
        switch (what) {
            case 0: return nodes.size();
            case 7:
                int running = 0;
                for (boolean one : now.running) {
                    running += one ? 1 : 0;
                }
                return running;
            case 9: return Math.min(30, now.trace.size());
            default: return now.counts[what];
        }
    }

    private int look(Node node, int key) {
        for (Node n = node.parent; n != null; n = n.parent) {
            if (n.kind == 14 && n.number == key) {
                return now.local[n.index];
            }
        }
        return now.globals[key];
    }

    private boolean holds(Node node) {
        int value = look(node, node.condition[0]);
        int number = node.condition[2];
        return node.condition[1] == '<' ? value < number : node.condition[1] == '>' ? value > number : value == number;
    }

    private void change(Node node, int[] effect) {
        int number = effect[2];
        int old = look(node, effect[0]);
        int value = effect[1] == ':' ? number : effect[1] == '+' ? old + number : old - number;
        value = value > 999 ? 999 : value < -999 ? -999 : value;
        for (Node n = node.parent; n != null; n = n.parent) {
            if (n.kind == 14 && n.number == effect[0]) {
                now.local[n.index] = value;
                return;
            }
        }
        now.globals[effect[0]] = value;
    }

    private void finish(Node node) {
        now.running[node.index] = false;
        if (node.end != null) {
            change(node, node.end);
            now.counts[6]++;
        }
    }

    private void stop(Node node) {
        stopFrom(node, 0);
        now.trace.add(new int[] {node.index, 4});
        now.tallies[3][node.index]++;
        now.counts[5]++;
        finish(node);
    }

    private void stopFrom(Node node, int first) {
        for (int i = node.children.size() - 1; i >= first; i--) {
            if (now.running[node.children.get(i).index]) {
                stop(node.children.get(i));
            }
        }
    }

    private int visit(Node node) throws Suspension {
        for (int[] set : sets) {
            if (set[0] == used) {
                now.globals[set[1]] = set[2];
            }
        }
        if (used == units) {
            next = node;
            throw new Suspension();
        }
        used++;
        open.addLast(node);
        int id = node.index;
        now.counts[4]++;
        now.tallies[4][id]++;
        if (!now.running[id]) {
            now.running[id] = true;
            now.tallies[0][id]++;
            now.steps[id] = 0;
            now.at[id] = 0;
            now.done[id] = 0;
            now.local[id] = 0;
        }
        int result = work(node);
        open.removeLast();
        now.trace.add(new int[] {id, result});
        if (result != 1) {
            now.tallies[result - 1][id]++;
            finish(node);
        }
        return result;
    }

    private int work(Node node) throws Suspension {
        int id = node.index;
        switch (node.kind) {
            case 0: case 1:
                if (now.steps[id]++ < node.number) {
                    return 1;
                }
                if (node.effect != null) {
                    change(node, node.effect);
                }
                return node.kind + 2;
            case 2: return holds(node) ? 2 : 3;
            case 3: change(node, node.effect); return 2;
            case 4: return remembered(node, 2);
            case 5: return remembered(node, 3);
            case 6: return reactive(node, 2);
            case 7: return reactive(node, 3);
            case 8: return parallel(node);
            case 9:
                int result = visit(node.children.get(0));
                return result == 2 ? 3 : result == 3 ? 2 : 1;
            case 10: return again(node, 2);
            case 11: return again(node, 3);
            case 12: return limited(node, holds(node));
            case 13: return limited(node, now.steps[id]++ < node.number);
            default: return visit(node.children.get(0));
        }
    }

    private int remembered(Node node, int onward) throws Suspension {
        while (true) {
            int result = visit(node.children.get(now.at[node.index]));
            if (result != onward || now.at[node.index] == node.children.size() - 1) {
                return result;
            }
            now.at[node.index]++;
        }
    }

    private int reactive(Node node, int onward) throws Suspension {
        for (int i = 0; i < node.children.size(); i++) {
            int result = visit(node.children.get(i));
            if (result != onward) {
                stopFrom(node, i + 1);
                return result;
            }
        }
        return onward;
    }

    /** Which children have ended is kept as a bit each, and how many of them succeeded as the steps. */
    private int parallel(Node node) throws Suspension {
        int ended = 0;
        for (int i = 0; i < node.children.size(); i++) {
            Node child = node.children.get(i);
            if ((now.done[node.index] >> i & 1) == 0) {
                int result = visit(child);
                if (result != 1) {
                    now.done[node.index] |= 1 << i;
                    now.steps[node.index] += result == 2 ? 1 : 0;
                }
            }
            ended += now.done[node.index] >> i & 1;
        }
        int good = now.steps[node.index];
        if (good >= node.number || ended - good > node.children.size() - node.number) {
            stopFrom(node, 0);
            return good >= node.number ? 2 : 3;
        }
        return 1;
    }

    private int again(Node node, int counted) throws Suspension {
        int result = visit(node.children.get(0));
        return result == counted && ++now.steps[node.index] < node.number ? 1 : result;
    }

    private int limited(Node node, boolean allowed) throws Suspension {
        if (allowed) {
            return visit(node.children.get(0));
        }
        stopFrom(node, 0);
        return 3;
    }
}
