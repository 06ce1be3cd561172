/** Promise 1: a new object. */
final class NewObjectTest {
    public static void main(String[] args) {
        BehaviorRunner x = new BehaviorRunner();
        for (int what = 0; what <= 10; what++) {
            Check.due("count(" + what + ")", x.count(what), 0);
        }
        for (int key = 0; key <= 7; key++) {
            Check.due("value(-1, " + key + ")", x.value(-1, key), 0);
        }
        Check.due("tick", x.tick(1), Check.NO_TREE);
        Check.due("run", x.run(1), Check.NO_TREE);
        Check.due("foresee", x.foresee(), Check.NO_TREE);
        Check.due("ticksToGo", x.ticksToGo(), Check.NO_TREE);
        Check.due("abort", x.abort(), Check.NO_TREE);
        Check.due("write", x.write(), Check.NO_TREE);
        Check.due("save", x.save(), Check.NO_TREE);
        Check.due("restore", x.restore(), Check.NONE);
        Check.due("node", x.node(0, 0), Check.NONE);
        Check.due("child", x.child(0, 0), Check.NONE);
        Check.due("value of a node", x.value(0, 0), Check.NONE);
        Check.due("underWay", x.underWay(0), Check.NONE);
        Check.due("pending", x.pending(), Check.NONE);
        Check.due("trace", x.trace(0, 0), Check.NONE);
        Check.due("written", x.written(0), Check.NONE);
        Check.due("readTree of nothing", x.readTree(), -2000);
        objectsAreApart();
        Check.end();
    }

    private static void objectsAreApart() {
        BehaviorRunner x = Check.with("=0:5");
        BehaviorRunner y = new BehaviorRunner();
        x.tick(1);
        Check.due("the value of the other object", y.value(-1, 0), 0);
        Check.due("the nodes of the other object", y.count(0), 0);
    }
}
