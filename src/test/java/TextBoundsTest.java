/** The boundary cases of the text of a tree, and of promises 2 append, 3 readTree, 17 write and 18 written. */
final class TextBoundsTest {
    private static final String DIGITS = "0123456789";
    private static final String KEYS = "01234567";
    private static final String LETTERS = "ax?=sfSFp!rtgwl";
    /** Twenty-two nodes, with what must stand around them in a list. */
    private static final String MANY = "p0(!!!!!!a0,!!!!!!a0,!!!!!!a0";

    public static void main(String[] args) {
        codesOfAppend();
        countsOfAppend();
        lengthsOfAppend();
        fullTexts();
        whatIsRefusedIsNotAppended();
        charactersInTheirOrder();
        whatMayFollow();
        whatMayFollowAtTheDepth();
        whatMayFollowTheLastNode();
        textsThatEndTooEarly();
        numbersOfNodes();
        depthsOfNodes();
        longestTexts();
        numbersOfOneOrTwoDigits();
        digitsOfKinds();
        theTextIsEmptyAfterwards();
        emptyText();
        aTreeReplacesTheOther();
        aWrongTextReplacesNothing();
        numbersWithoutLeadingZeros();
        everyKindIsWritten();
        theLongestIsWritten();
        theWrittenTextIsReplaced();
        indexesOfWritten();
        writeWithoutATree();
        writeAtAnyTime();
        Check.end();
    }

    private static void codesOfAppend() {
        Check.sentence("append: code: the character, 0 to 127; BAD_ARGUMENT if an argument is out of range");
        for (int code = 0; code <= 127; code++) {
            BehaviorRunner x = new BehaviorRunner();
            Check.due("append(" + code + ", 1)", x.append(code, 1), 1);
            Check.due("append(" + code + ", 69)", x.append(code, 69), 70);
        }
        BehaviorRunner x = new BehaviorRunner();
        for (int code : new int[] {-1, 128, -128, 129, 255, 256, 65536 + 97, Integer.MIN_VALUE, Integer.MAX_VALUE}) {
            Check.due("append(" + code + ", 1)", x.append(code, 1), Check.BAD_ARGUMENT);
            Check.due("append(" + code + ", 70)", x.append(code, 70), Check.BAD_ARGUMENT);
        }
        Check.due("length", x.count(10), 0);
    }

    private static void countsOfAppend() {
        Check.sentence("append: count: how many times, 1 to 70; BAD_ARGUMENT if an argument is out of range");
        for (int count = 1; count <= 70; count++) {
            Check.due("append('a', " + count + ")", new BehaviorRunner().append('a', count), count);
        }
        BehaviorRunner x = new BehaviorRunner();
        for (int count : new int[] {0, -1, -70, 71, 72, 140, Integer.MIN_VALUE, Integer.MAX_VALUE}) {
            Check.due("append('a', " + count + ")", x.append('a', count), Check.BAD_ARGUMENT);
        }
        Check.due("length", x.count(10), 0);
    }

    private static void lengthsOfAppend() {
        Check.sentence("FULL if the text would have more than 70 characters");
        for (int length = 1; length <= 69; length++) {
            BehaviorRunner x = new BehaviorRunner();
            x.append('a', length);
            Check.due("one too many after " + length, x.append('b', 71 - length), Check.FULL);
            Check.due("70 after " + length, x.append('b', 70), Check.FULL);
            Check.due("length after it", x.count(10), length);
            Check.due("as many as fit after " + length, x.append('b', 70 - length), 70);
        }
    }

    private static void fullTexts() {
        Check.sentence("FULL if the text would have more than 70 characters");
        BehaviorRunner x = new BehaviorRunner();
        x.append('a', 70);
        for (int count : new int[] {1, 2, 69, 70}) {
            Check.due("append('a', " + count + ") to a full text", x.append('a', count), Check.FULL);
        }
        Check.sentence("If several errors apply, the one that is listed first at the method is returned.");
        Check.due("append('a', 71) to a full text", x.append('a', 71), Check.BAD_ARGUMENT);
        Check.due("append('a', 0) to a full text", x.append('a', 0), Check.BAD_ARGUMENT);
        Check.due("append(128, 1) to a full text", x.append(128, 1), Check.BAD_ARGUMENT);
        Check.due("append(-1, 70) to a full text", x.append(-1, 70), Check.BAD_ARGUMENT);
        Check.due("length", x.count(10), 70);
    }

    private static void whatIsRefusedIsNotAppended() {
        Check.sentence("A call that returns an error code changes nothing");
        BehaviorRunner x = new BehaviorRunner();
        x.append('!', 9);
        x.append('!', 62);
        x.append('a', 71);
        x.append(-1, 1);
        x.append(128, 1);
        x.append('a', 1);
        x.append('0', 1);
        Check.due("length", x.count(10), 11);
        Check.due("readTree", x.readTree(), 10);
    }

    private static void charactersInTheirOrder() {
        Check.sentence("Appends a character to the text several times.");
        BehaviorRunner x = new BehaviorRunner();
        x.append('!', 3);
        x.append('a', 1);
        x.append('0', 2);
        x.append(':', 1);
        x.append('9', 2);
        Check.due("readTree", x.readTree(), 4);
        x.write();
        Check.due("written", Check.written(x), "!!!a00:99");
    }

    /** Each of the 128 characters behind a beginning of a tree: right if it is one of those allowed. */
    private static void follows(String beginning, String allowed) {
        BehaviorRunner x = new BehaviorRunner();
        int calls = 0;
        for (int code = 0; code <= 127; code++) {
            if (calls > 400) {
                x = new BehaviorRunner();
                calls = 0;
            }
            Check.type(x, beginning);
            x.append(code, 1);
            int answer = x.readTree();
            calls += beginning.length() + 2;
            boolean right = answer > 0 || answer == -2000 - beginning.length() - 1;
            String what = "readTree of " + beginning + " and code " + code;
            if (allowed.indexOf((char) code) < 0) {
                Check.due(what, answer, -2000 - beginning.length());
            } else {
                Check.due(what, right ? 0 : answer, 0);
            }
        }
    }

    private static void whatMayFollow() {
        Check.sentence("The error offset of a text is the offset of the first character that cannot continue a tree");
        follows("", LETTERS);
        for (String letter : new String[] {"a", "x"}) {
            follows(letter, DIGITS);
            follows(letter + "0", KEYS + "~");
            follows(letter + "97", ":+-");
            follows(letter + "97:", DIGITS);
            follows(letter + "97:1", DIGITS + "~");
            follows(letter + "97:12", "~");
            follows(letter + "97:12~", KEYS);
            follows(letter + "97:12~0", ":+-");
            follows(letter + "97:12~0+", DIGITS);
            follows(letter + "97:12~0+1", DIGITS);
            follows(letter + "97:12~0+12", "");
            follows(letter + "9~", KEYS);
            follows(letter + "9~7", ":+-");
            follows(letter + "9~7-", DIGITS);
            follows(letter + "9~7-0", DIGITS);
            follows(letter + "9~7-00", "");
            follows("s(" + letter + "9", KEYS + "~,)");
            follows("s(" + letter + "97:1", DIGITS + "~,)");
            follows("s(" + letter + "97:12", "~,)");
            follows("s(" + letter + "97:12~0+1", DIGITS + ",)");
            follows("s(" + letter + "97:12~0+12", ",)");
        }
        conditionsAndEffectsMayFollow("?", "<=>", "");
        conditionsAndEffectsMayFollow("=", ":+-", "");
        conditionsAndEffectsMayFollow("g", "<=>", LETTERS);
        for (String list : new String[] {"s", "f", "S", "F", "p0", "p9"}) {
            follows(list, "(");
            follows(list + "(", LETTERS);
            follows(list + "(=0:00", ",)");
            follows(list + "(=0:00,", LETTERS);
            follows(list + "(=0:00,?0<00", ",)");
            follows(list + "(=0:00)", "");
            follows(list + "(!=0:00)", "");
            follows("s(" + list + "(=0:00)", ",)");
        }
        follows("p", DIGITS);
        follows("r", "123456789");
        follows("t", "123456789");
        follows("w", DIGITS);
        follows("l", KEYS);
        for (String above : new String[] {"!", "r1", "r9", "t1", "t9", "w0", "w9", "l0", "l7", "g0=00"}) {
            follows(above, LETTERS);
            follows(above + "=0:00", "");
        }
    }

    private static void conditionsAndEffectsMayFollow(String letter, String signs, String behind) {
        follows(letter, KEYS);
        follows(letter + "0", signs);
        follows(letter + "7", signs);
        for (char sign : signs.toCharArray()) {
            follows(letter + "0" + sign, DIGITS);
            follows(letter + "0" + sign + "0", DIGITS + behind);
            follows(letter + "0" + sign + "9", DIGITS + behind);
            follows(letter + "0" + sign + "09", behind);
            follows(letter + "0" + sign + "99", behind);
        }
    }

    private static void whatMayFollowAtTheDepth() {
        Check.sentence("the first character of ... a node at depth 11, cannot continue a tree");
        follows("!!!!!!!!", LETTERS);
        follows("!!!!!!!!!", LETTERS);
        follows("!!!!!!!!!!", "");
        follows("!!!!!!!!!s", "(");
        follows("!!!!!!!!!s(", "");
        follows("!!!!!!!!!p", DIGITS);
        follows("!!!!!!!!!p0", "(");
        follows("!!!!!!!!!p0(", "");
        follows("!!!!!!!!!r", "123456789");
        follows("!!!!!!!!!r1", "");
        follows("!!!!!!!!!w", DIGITS);
        follows("!!!!!!!!!w0", "");
        follows("!!!!!!!!!l", KEYS);
        follows("!!!!!!!!!l0", "");
        follows("!!!!!!!!!g0=", DIGITS);
        follows("!!!!!!!!!g0=0", DIGITS);
        follows("!!!!!!!!!g0=00", "");
        follows("!!!!!!!!!a", DIGITS);
        follows("!!!!!!!!s(a0,", LETTERS);
        follows("!!!!!!!!s(a0,!", "");
        follows("s(!!!!!!!!a0,", LETTERS);
        follows("s(!!!!!!!!a0,!!!!!!!!", LETTERS);
        follows("s(!!!!!!!!a0,!!!!!!!!!", "");
    }

    private static void whatMayFollowTheLastNode() {
        Check.sentence("the first character of a 25th node itself ... cannot continue a tree");
        follows(MANY, KEYS + "~,)");
        follows(MANY + ",", LETTERS);
        follows(MANY + ",=0:00", ",)");
        follows(MANY + ",=0:00,", LETTERS);
        follows(MANY + ",=0:00,=0:00", ",)");
        follows(MANY + ",=0:00,=0:00,", "");
        follows(MANY + ",=0:00,=0:00)", "");
        follows(MANY + ",!", LETTERS);
        follows(MANY + ",!!", "");
        follows(MANY + ",!s", "(");
        follows(MANY + ",!s(", "");
        follows(MANY + ",!r", "123456789");
        follows(MANY + ",!r9", "");
        follows(MANY + ",!g0=00", "");
        follows(MANY + ",!p", DIGITS);
        follows(MANY + ",!l", KEYS);
        follows(MANY + ",!l7", "");
    }

    private static void textsThatEndTooEarly() {
        Check.sentence("or the length of the text if it ends too early");
        String[] texts = {"s(f(a9,x8),S(?0<5,=7+12),F(p3(a0),!a0),r9a0,t1a0,g2>1a0,w0a0,l6a0)", "s(a00:1~7-99,g0=10g0=10x9)",
            "S(" + Check.list("!a0", 11) + ",a0)", "p0(" + Check.list("a9", 22) + ")", "!!!!!!!!!a99"};
        for (String text : texts) {
            for (int length = 0; length < text.length(); length++) {
                String beginning = text.substring(0, length);
                boolean tree = text.equals("!!!!!!!!!a99") && length == 11;
                Check.due("readTree of " + beginning, Check.read(new BehaviorRunner(), beginning), tree ? 10 : -2000 - length);
            }
        }
        String full = "s(" + Check.list("a00+0", 11) + ",";
        Check.due("length of a long text", full.length(), 68);
        Check.due("69 characters", Check.read(new BehaviorRunner(), full + "!"), -2069);
        Check.due("70 characters", Check.read(new BehaviorRunner(), full + "a0"), -2070);
        Check.due("70 characters", Check.read(new BehaviorRunner(), full + "!!"), -2070);
    }

    private static void numbersOfNodes() {
        Check.sentence("A tree has 1 to 24 nodes");
        for (String leaf : new String[] {"a0", "x0", "?0=0", "=0:0"}) {
            Check.due("one node", Check.read(new BehaviorRunner(), leaf), 1);
        }
        for (int children = 1; children <= 22; children++) {
            Check.due("a list", Check.read(new BehaviorRunner(), "s(" + Check.list("a0", children) + ")"), children + 1);
        }
        Check.due("24 nodes", Check.read(new BehaviorRunner(), "s(" + Check.list("!a0", 11) + ",a0)"), 24);
        Check.due("25 nodes", Check.read(new BehaviorRunner(), "s(" + Check.list("!a0", 12) + ")"), -2000 - 2 - 44 - 1);
        Check.due("26 nodes", Check.read(new BehaviorRunner(), "s(" + Check.list("!a0", 12) + ",a0)"), -2000 - 2 - 44 - 1);
        String lists = "s(" + Check.list("f(a0)", 10);
        Check.due("24 nodes, lists in lists", Check.read(new BehaviorRunner(), lists + ",!a0,a0)"), 24);
        Check.due("25 nodes, lists in lists", Check.read(new BehaviorRunner(), lists + ",!!a0,a0)"), -2067);
        BehaviorRunner x = Check.with("s(" + Check.list("!a0", 11) + ",a0)");
        Check.due("nodes", x.count(0), 24);
        Check.due("the last node of the text before", Check.read(x, "s(" + Check.list("!a0", 12) + ")"), -2047);
        Check.due("nodes", x.count(0), 24);
        Check.due("24 nodes again", Check.read(x, "s(" + Check.list("!a0", 11) + ",x0)"), 24);
        Check.due("the last one", x.node(23, 0), 1);
    }

    private static void depthsOfNodes() {
        Check.sentence("Nodes can be nested at most 10 deep, node 0 being at depth 1.");
        String[] heads = {"s(", "f(", "S(", "F(", "p0(", "!", "r1", "t1", "g0=0", "w0", "l0"};
        for (String head : heads) {
            for (int depth = 1; depth <= 12; depth++) {
                boolean list = head.endsWith("(");
                String text = head.repeat(depth - 1) + "a0" + (list ? ")".repeat(depth - 1) : "");
                int due = depth <= 10 ? depth : -2000 - 10 * head.length();
                Check.due("readTree of " + text, Check.read(new BehaviorRunner(), text), due);
            }
        }
        Check.due("depth 10 and nodes behind it", Check.read(new BehaviorRunner(), "s(!!!!!!!!a0,!!!!!!!!a0,a0,a0)"), 21);
        Check.due("depth 11 behind depth 10", Check.read(new BehaviorRunner(), "s(!!!!!!!!a0,!!!!!!!!!a0)"), -2022);
    }

    private static void longestTexts() {
        Check.sentence("A text of at most 70 characters is a tree");
        String list = Check.list("a00+0", 11);
        read70("s(" + list + ")", 68, 12);
        read70("p0(" + list + ")", 69, 12);
        read70("!s(" + list + ")", 69, 13);
        read70("!p9(" + list + ")", 70, 13);
        read70("s(" + list + "0)", 69, 12);
        read70("!s(" + Check.list("a0", 18) + ",g0=10g0=10a0)", 70, 23);
        read70("s(" + Check.list("a00:00~0:00", 5) + ",a00:0)", 68, 7);
        read70("!!s(" + Check.list("a00:00~0:00", 5) + ",a00:0)", 70, 9);
        read70("!!s(" + Check.list("a00:00~0:00", 5) + ",a00:00", 70, -2070);
        read70("l0l0l0l0l0l0l0l0s(" + Check.list("a00:00~0:00", 4) + ",a0)", 69, 14);
        read70("w0l0l0l0l0l0l0!s(" + Check.list("a00:00~0:00", 4) + ",a00:0", 70, -2070);
    }

    private static void read70(String text, int length, int due) {
        Check.due("length of " + text, text.length(), length);
        BehaviorRunner x = new BehaviorRunner();
        Check.due("readTree of " + text, Check.read(x, text), due);
        Check.due("length after " + text, x.count(10), 0);
    }

    private static void numbersOfOneOrTwoDigits() {
        Check.sentence("A number is one or two digits, two if a digit follows the first one, which may be 0.");
        for (int number = 0; number <= 99; number++) {
            String plain = String.valueOf(number);
            String two = number < 10 ? "0" + number : plain;
            for (String digits : new String[] {plain, two}) {
                BehaviorRunner x = Check.with("s(=0:" + digits + ",a01+" + digits + "~2-" + digits + ",?0=" + digits
                        + ",g0=" + digits + "x0)");
                Check.due("tick with " + digits, x.tick(9), Check.FAILURE);
                Check.due("the visit below the guard with " + digits, x.node(5, 9), 1);
                Check.due("values with " + digits, Check.globals(x), number + " " + number + " " + -number + " 0 0 0 0 0");
            }
            String third = "?0<" + two + "0";
            Check.due("readTree of " + third, Check.read(new BehaviorRunner(), third), -2005);
        }
    }

    private static void digitsOfKinds() {
        Check.sentence("The digit after r and t is from 1 to 9, the others are from 0 to 9.");
        for (int digit = 0; digit <= 9; digit++) {
            for (String head : new String[] {"r", "t", "w", "p", "a", "x"}) {
                boolean right = digit > 0 || !head.equals("r") && !head.equals("t");
                String rest = head.equals("p") ? "(a0)" : head.equals("a") || head.equals("x") ? "" : "a0";
                int nodes = rest.isEmpty() ? 1 : 2;
                BehaviorRunner x = new BehaviorRunner();
                Check.due("readTree of " + head + digit, Check.read(x, head + digit + rest), right ? nodes : -2001);
                Check.due("number of " + head + digit, x.node(0, 4), right ? digit : Check.NONE);
            }
        }
        Check.sentence("The digit after a letter is one digit alone; what follows it begins an effect.");
        Check.due("a12:3", Check.with("a12:3").node(0, 4), 1);
        Check.due("its effect", Check.after("a12:3", 2).value(-1, 2), 3);
        Check.due("readTree of a18:3", Check.read(new BehaviorRunner(), "a18:3"), -2002);
        Check.due("readTree of a99", Check.read(new BehaviorRunner(), "a99"), -2002);
        Check.due("readTree of r11a0", Check.read(new BehaviorRunner(), "r11a0"), -2002);
        Check.due("readTree of w10a0", Check.read(new BehaviorRunner(), "w10a0"), -2002);
        Check.due("readTree of p10(a0)", Check.read(new BehaviorRunner(), "p10(a0)"), -2002);
    }

    private static void theTextIsEmptyAfterwards() {
        Check.sentence("The text is empty afterwards, also after an error.");
        BehaviorRunner x = new BehaviorRunner();
        for (String text : new String[] {"a0", "a", "", "s(a0,a0)", "a0!", "\u0000", "\u007f"}) {
            Check.read(x, text);
            Check.due("length after " + text, x.count(10), 0);
            Check.due("readTree again", x.readTree(), -2000);
            x.append('a', 1);
            x.append('0', 1);
            Check.due("a new text", x.readTree(), 1);
        }
    }

    private static void emptyText() {
        Check.sentence("readTree: -2000 minus the error offset if the text has a syntax error");
        BehaviorRunner x = new BehaviorRunner();
        Check.due("readTree of an empty text", x.readTree(), -2000);
        Check.due("without a tree", x.tick(1), Check.NO_TREE);
        Check.read(x, "a0");
        Check.due("readTree of an empty text", x.readTree(), -2000);
        Check.due("with a tree", x.tick(1), Check.SUCCESS);
        for (int length = 1; length <= 70; length++) {
            BehaviorRunner y = new BehaviorRunner();
            y.append(')', length);
            Check.due("a wrong first character of " + length, y.readTree(), -2000);
        }
    }

    private static void aTreeReplacesTheOther() {
        Check.sentence("Reads the text as a tree, which replaces the present one; all its nodes are idle, no tick is under way");
        BehaviorRunner x = Check.after("S(l0s(=0+9,a9~1+1),a9)", 1);
        x.set(7, 70);
        x.tick(2);
        x.write();
        Check.due("readTree", Check.read(x, "S(l0s(=0+9,a9~1+1),a9)"), 6);
        Check.due("states", Check.nodes(x, 3), "0 0 0 0 0 0");
        for (int what = 5; what <= 9; what++) {
            Check.due("property " + what, Check.nodes(x, what), "0 0 0 0 0 0");
        }
        Check.due("local values", Check.nodes(x, 11), "0 0 0 0 0 0");
        for (int what = 1; what <= 10; what++) {
            Check.due("count " + what, x.count(what), 0);
        }
        Check.due("trace", x.trace(0, 0), Check.NONE);
        Check.due("pending", x.pending(), Check.NONE);
        Check.due("underWay", x.underWay(0), Check.NONE);
        Check.due("global values", Check.globals(x), "0 0 0 0 0 0 0 70");
        Check.due("abort", x.abort(), 0);
        Check.due("the action begins with 0", x.foresee(), Check.RUNNING);
    }

    private static void aWrongTextReplacesNothing() {
        Check.sentence("A call that returns an error code changes nothing, except that readTree empties the text.");
        String[] wrong = {"", "q", "a", "a0!", "s(a0,a0,a0,a0", "!!!!!!!!!!a0", "s(" + Check.list("!a0", 12) + ")", "l0s(=0:1,a9)x"};
        for (String text : wrong) {
            String before = Check.state(suspended());
            BehaviorRunner x = suspended();
            Check.due("readTree of " + text, Check.read(x, text) <= -2000 ? 1 : 0, 1);
            Check.due("state after " + text, Check.state(x), before);
            Check.due("written after " + text, Check.written(x), "l0s(=0+1,a1~1+1,a0~1+1)");
            BehaviorRunner y = suspended();
            Check.read(y, text);
            Check.due("the rest of the tick after " + text, y.tick(9), Check.SUCCESS);
            Check.due("the ends after " + text, y.value(-1, 1), 2);
            Check.due("the snapshot after " + text, y.restore(), 5);
            Check.due("pending after restore", y.pending(), Check.NONE);
        }
    }

    private static BehaviorRunner suspended() {
        BehaviorRunner x = Check.after("l0s(=0+1,a1~1+1,a0~1+1)", 1);
        x.save();
        x.write();
        x.tick(2);
        return x;
    }

    private static void writes(String text, String due) {
        BehaviorRunner x = Check.with(text);
        Check.due("write of " + text, x.write(), due.length());
        Check.due("written of " + text, Check.written(x), due);
        BehaviorRunner y = Check.with(due);
        Check.due("write of what was written", y.write(), due.length());
        for (int what : new int[] {0, 1, 2, 4, 10}) {
            Check.due("property " + what + " of what was written of " + text, Check.nodes(y, what), Check.nodes(x, what));
        }
    }

    private static void numbersWithoutLeadingZeros() {
        Check.sentence("write: numbers have no leading zeros");
        for (int number = 0; number <= 99; number++) {
            String two = number < 10 ? "0" + number : "" + number;
            writes("g7>" + two + "a97:" + two + "~6-" + two, "g7>" + number + "a97:" + number + "~6-" + number);
            writes("s(?0<" + two + ",=0+" + two + ",a0)", "s(?0<" + number + ",=0+" + number + ",a0)");
        }
    }

    private static void everyKindIsWritten() {
        Check.sentence("Writes the tree as a text, which can be read as the same tree");
        for (int digit = 0; digit <= 9; digit++) {
            for (String head : new String[] {"a", "x", "p", "w", "r", "t", "l"}) {
                if (digit == 0 && (head.equals("r") || head.equals("t")) || digit > 7 && head.equals("l")) {
                    continue;
                }
                String rest = head.equals("p") ? "(a0)" : head.equals("a") || head.equals("x") ? "" : "a0";
                writes(head + digit + rest, head + digit + rest);
            }
        }
        for (int key = 0; key <= 7; key++) {
            for (String signs : new String[] {"<:", "=+", ">-"}) {
                String condition = key + signs.substring(0, 1) + 9 + key;
                String effect = key + signs.substring(1) + 9 + key;
                for (String text : new String[] {"?" + condition, "=" + effect, "g" + condition + "a0", "a0" + effect,
                    "x9~" + effect, "a1" + effect + "~" + effect}) {
                    writes(text, text);
                }
            }
        }
        for (String list : new String[] {"s", "f", "S", "F", "p3"}) {
            writes(list + "(a0)", list + "(a0)");
            writes(list + "(!a0,!" + list + "(a0,a0),a0)", list + "(!a0,!" + list + "(a0,a0),a0)");
        }
    }

    private static void theLongestIsWritten() {
        Check.sentence("Returns the length of the written text");
        String[] texts = {"!p9(" + Check.list("a00+0", 11) + ")", "!!s(" + Check.list("a00:99~0:99", 5) + ",a00:0)",
            "s(" + Check.list("!a0", 11) + ",a0)", "s(f(S(F(p0(s(f(S(F(a0)))))))))", "!!!!!!!!!a0", "p0(" + Check.list("f(a0)", 10) + ",a0)"};
        for (String text : texts) {
            writes(text, text);
        }
        BehaviorRunner x = Check.with(texts[0]);
        Check.due("write", x.write(), 70);
        Check.due("the last character", x.written(69), ')');
        Check.due("behind it", x.written(70), Check.NONE);
    }

    private static void theWrittenTextIsReplaced() {
        Check.sentence("The written text replaces the one before.");
        BehaviorRunner x = Check.with("s(a0,a1)");
        x.write();
        Check.due("write again", x.write(), 8);
        Check.due("written again", Check.written(x), "s(a0,a1)");
        Check.read(x, "x9");
        Check.due("a shorter one", x.write(), 2);
        Check.due("written", Check.written(x), "x9");
        Check.due("behind it", x.written(2), Check.NONE);
        Check.due("at the end of the one before", x.written(7), Check.NONE);
        Check.read(x, "s(a0,a1,a2)");
        Check.due("a longer one", x.write(), 11);
        Check.due("written", Check.written(x), "s(a0,a1,a2)");
    }

    private static void indexesOfWritten() {
        Check.sentence("written: NONE if there is no such index");
        BehaviorRunner x = new BehaviorRunner();
        Check.due("empty at first", x.written(0), Check.NONE);
        Check.read(x, "!a9");
        Check.due("empty before write", x.written(0), Check.NONE);
        x.write();
        int[] due = {'!', 'a', '9', Check.NONE, Check.NONE};
        for (int index = 0; index < due.length; index++) {
            Check.due("written(" + index + ")", x.written(index), due[index]);
        }
        for (int index : new int[] {-1, -2, 69, 70, 71, Integer.MIN_VALUE, Integer.MAX_VALUE}) {
            Check.due("written(" + index + ")", x.written(index), Check.NONE);
        }
    }

    private static void writeWithoutATree() {
        Check.sentence("write: Returns the length of the written text; NO_TREE.");
        BehaviorRunner x = new BehaviorRunner();
        Check.due("write", x.write(), Check.NO_TREE);
        Check.due("written(0)", x.written(0), Check.NONE);
        x.append('a', 1);
        Check.due("write with a text that is not read", x.write(), Check.NO_TREE);
        Check.due("the text", x.count(10), 1);
    }

    private static void writeAtAnyTime() {
        Check.sentence("Writes the tree as a text");
        BehaviorRunner x = suspended();
        x.append('a', 2);
        Check.due("write in a suspended tick", x.write(), 23);
        Check.due("written", Check.written(x), "l0s(=0+1,a1~1+1,a0~1+1)");
        Check.due("the text", x.count(10), 2);
        Check.due("pending", x.pending(), 3);
        Check.due("state", Check.state(x), Check.state(suspended()));
    }
}
