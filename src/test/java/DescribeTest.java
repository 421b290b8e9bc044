/** Promises 1 to 6: a new object, and the calls that describe a network; promise 17: count. */
public final class DescribeTest extends Terms {
    public static void main(String[] args) {
        promise1NewObject();
        promise2Tensor();
        promise2TensorLimit();
        promise3Set();
        promise3SetWrong();
        promise3SetWhenPrepared();
        promise4Scale();
        promise5Operator();
        promise5OperatorLimit();
        promise6Keep();
        promise17Count();
        due.end();
    }

    private static void promise1NewObject() {
        due.part("promise 1");
        ArenaNetwork x = new ArenaNetwork();
        int[] counts = {0, 0, 0, -1, 0, 0};
        for (int what = 0; what < counts.length; what++) {
            due.is("count(" + what + ")", x.count(what), counts[what]);
        }
        due.is("reopen", x.reopen(), CLOSED);
        due.is("start", x.start(), CLOSED);
        due.is("step", x.step(), CLOSED);
        due.is("finish", x.finish(), CLOSED);
        due.is("cell", x.cell(0, 0), NONE);
        due.is("offset", x.offset(0), REFUSED);
        due.is("life", x.life(0, false), NONE);
        due.is("placed", x.placed(0), REFUSED);
        due.is("keep", x.keep(0, true), REFUSED);
        due.is("set", x.set(0, 0, 0), REFUSED);
        due.is("operator", x.operator(ADD, 0, 0, 0, 0), REFUSED);
        for (int i = 0; i < 8; i++) {
            due.is("scale " + i + " halves", x.scaled(i, 100), 50);
            due.is("scale " + i + " rounds 1 / 2 up", x.scaled(i, 1), 1);
        }
        due.is("prepare without anything", x.prepare(), 0);
    }

    private static void promise2Tensor() {
        due.part("promise 2");
        ArenaNetwork x = new ArenaNetwork();
        int[][] wrong = {
            {-1, 1, 0}, {3, 1, 0}, {CONSTANT, 0, 0}, {CONSTANT, 65, 0}, {INPUT, 0, 0}, {INPUT, 17, 0},
            {MADE, 0, 0}, {MADE, 17, 0}, {MADE, -4, 0}, {CONSTANT, 1, -129}, {INPUT, 1, 128},
            {Integer.MIN_VALUE, 1, 0}, {INPUT, Integer.MAX_VALUE, 0}, {MADE, 1, Integer.MIN_VALUE},
        };
        int[][] good = {
            {CONSTANT, 1, -128}, {CONSTANT, 64, 127}, {INPUT, 1, 127}, {INPUT, 16, -128}, {MADE, 1, 0},
            {MADE, 16, 5},
        };
        for (int[] t : wrong) {
            due.is("wrong tensor", x.tensor(t[0], t[1], t[2]), REFUSED);
        }
        for (int i = 0; i < good.length; i++) {
            due.is("tensor", x.tensor(good[i][0], good[i][1], good[i][2]), i);
        }
        due.is("the last constant cell at first", x.cell(1, 63), 0);
        x.prepare();
        due.is("an input's last cell at first is not there without a run", x.cell(3, 15), NONE);
        x.start();
        due.is("an input's last cell at first", x.cell(3, 15), 0);
    }

    private static void promise2TensorLimit() {
        due.part("promise 2, limit");
        ArenaNetwork x = new ArenaNetwork();
        for (int i = 0; i < 20; i++) {
            due.is("tensor", x.tensor(i % 3, 4, 0), i);
        }
        due.is("a 21st", x.tensor(MADE, 4, 0), FULL);
        due.is("a wrong 21st", x.tensor(MADE, 17, 0), REFUSED);
        due.is("still 20", x.count(0), 20);
        x.prepare();
        due.is("prepared and full", x.tensor(MADE, 4, 0), CLOSED);
        due.is("prepared, full and wrong", x.tensor(3, 4, 0), REFUSED);
        x.reopen();
        due.is("full again", x.tensor(MADE, 4, 0), FULL);
    }

    private static ArenaNetwork oneOfEach() {
        ArenaNetwork x = new ArenaNetwork();
        x.tensor(CONSTANT, 3, 0);
        x.tensor(INPUT, 3, 0);
        x.tensor(MADE, 3, 0);
        return x;
    }

    private static void promise3Set() {
        due.part("promise 3");
        ArenaNetwork x = oneOfEach();
        due.is("set a constant", x.set(0, 2, -128), DONE);
        due.is("its cell", x.cell(0, 2), -128);
        due.is("set it again", x.set(0, 2, 127), DONE);
        due.is("its cell again", x.cell(0, 2), 127);
        due.is("its other cell", x.cell(0, 1), 0);
        due.is("set an input", x.set(1, 0, 9), DONE);
        x.prepare();
        x.start();
        due.is("the input's cell", x.cell(1, 0), 9);
        due.is("the input's other cell", x.cell(1, 1), 0);
    }

    private static void promise3SetWrong() {
        due.part("promise 3, wrong");
        ArenaNetwork x = oneOfEach();
        due.is("tensor -1", x.set(-1, 0, 0), REFUSED);
        due.is("tensor 3", x.set(3, 0, 0), REFUSED);
        due.is("a made tensor", x.set(2, 0, 0), REFUSED);
        for (int tensor = 0; tensor < 2; tensor++) {
            due.is("index -1", x.set(tensor, -1, 0), REFUSED);
            due.is("index 3", x.set(tensor, 3, 0), REFUSED);
            due.is("value -129", x.set(tensor, 0, -129), REFUSED);
            due.is("value 128", x.set(tensor, 0, 128), REFUSED);
        }
        due.is("nothing changed", x.cell(0, 0), 0);
    }

    private static void promise3SetWhenPrepared() {
        due.part("promise 3, prepared");
        ArenaNetwork x = oneOfEach();
        x.set(0, 0, 4);
        x.prepare();
        due.is("a constant", x.set(0, 0, 5), CLOSED);
        due.is("a constant with a wrong index", x.set(0, 3, 5), REFUSED);
        due.is("a constant with a wrong value", x.set(0, 0, 128), REFUSED);
        due.is("a made tensor", x.set(2, 0, 5), REFUSED);
        due.is("an input", x.set(1, 0, 5), DONE);
        x.start();
        due.is("an input in a run", x.set(1, 0, 6), DONE);
        due.is("the run has what start took", x.cell(1, 0), 5);
        x.start();
        due.is("the next run has the new value", x.cell(1, 0), 6);
        due.is("the constant is as it was", x.cell(0, 0), 4);
        x.reopen();
        due.is("a constant, reopened", x.set(0, 0, 5), DONE);
        due.is("its cell", x.cell(0, 0), 5);
    }

    private static void promise4Scale() {
        due.part("promise 4");
        ArenaNetwork x = new ArenaNetwork();
        due.is("scale -1", x.scale(-1, 1, 1), REFUSED);
        due.is("scale 8", x.scale(8, 1, 1), REFUSED);
        due.is("multiplier -1", x.scale(0, -1, 1), REFUSED);
        due.is("least multiplier", x.scale(0, Integer.MIN_VALUE, 1), REFUSED);
        due.is("shift -1", x.scale(0, 1, -1), REFUSED);
        due.is("shift 31", x.scale(0, 1, 31), REFUSED);
        due.is("nothing changed", x.scaled(0, 10), 5);
        due.is("multiplier 0", x.scale(0, 0, 0), DONE);
        due.is("scaled by 0", x.scaled(0, 16777216), 0);
        due.is("greatest multiplier", x.scale(7, 2147483647, 0), DONE);
        due.is("scaled by nearly 1", x.scaled(7, 10), 10);
        due.is("shift 30", x.scale(1, 2147483647, 30), DONE);
        due.is("scaled by nearly nothing", x.scaled(1, 16777216), 0);
        due.is("another scale is as it was", x.scaled(2, 10), 5);
        x.prepare();
        due.is("prepared", x.scale(2, 0, 0), CLOSED);
        due.is("prepared and wrong", x.scale(2, 0, 31), REFUSED);
        due.is("nothing changed", x.scaled(2, 10), 5);
        x.reopen();
        due.is("reopened", x.scale(2, 0, 0), DONE);
        due.is("changed", x.scaled(2, 10), 0);
    }

    private static void promise5Operator() {
        due.part("promise 5");
        ArenaNetwork x = oneOfEach();
        int[][] wrong = {
            {-1, 0, 0, 0, 0}, {8, 0, 0, 0, 0}, {ADD, -1, 0, 0, 0}, {ADD, 3, 0, 0, 0}, {ADD, 0, -1, 0, 0},
            {ADD, 0, 3, 0, 0}, {ADD, 0, 0, -1, 0}, {ADD, 0, 0, 3, 0}, {ADD, 0, 0, 0, -1}, {ADD, 0, 0, 0, 8},
        };
        for (int[] o : wrong) {
            due.is("wrong operator", x.operator(o[0], o[1], o[2], o[3], o[4]), REFUSED);
        }
        due.is("none is there", x.count(1), 0);
        due.is("a good one", x.operator(ADD, 1, 1, 2, 7), 0);
        x.prepare();
        due.is("prepared", x.operator(ADD, 1, 1, 2, 0), CLOSED);
        due.is("prepared and wrong", x.operator(ADD, 1, 1, 3, 0), REFUSED);
        x.reopen();
        due.is("one that is not good", x.operator(TURN, 0, 1, 0, 7), 1);
        due.is("kind 0", x.operator(0, 2, 2, 2, 0), 2);
        due.is("three are there", x.count(1), 3);
    }

    private static void promise5OperatorLimit() {
        due.part("promise 5, limit");
        ArenaNetwork x = new ArenaNetwork();
        x.tensor(INPUT, 1, 0);
        for (int i = 0; i < 14; i++) {
            x.tensor(MADE, 1, 0);
            due.is("operator", x.operator(TURN, i, i, i + 1, 0), i);
        }
        due.is("a 15th", x.operator(TURN, 0, 0, 1, 0), FULL);
        due.is("a wrong 15th", x.operator(TURN, 0, 0, 15, 0), REFUSED);
        due.is("still 14", x.count(1), 14);
        due.is("prepare", x.prepare(), 5);
        due.is("prepared and full", x.operator(TURN, 0, 0, 1, 0), CLOSED);
        due.is("start", x.start(), 14);
        due.is("finish", x.finish(), 14);
    }

    private static void promise6Keep() {
        due.part("promise 6");
        ArenaNetwork x = oneOfEach();
        due.is("tensor -1", x.keep(-1, true), REFUSED);
        due.is("tensor 3", x.keep(3, false), REFUSED);
        due.is("a constant", x.keep(0, true), REFUSED);
        due.is("a constant, off", x.keep(0, false), REFUSED);
        due.is("an input", x.keep(1, true), DONE);
        due.is("a made one", x.keep(2, true), DONE);
        x.operator(TURN, 1, 1, 2, 0);
        x.prepare();
        due.is("kept input's end", x.life(1, true), 1);
        due.is("kept result's end", x.life(2, true), 1);
        due.is("prepared", x.keep(1, false), CLOSED);
        due.is("prepared, a constant", x.keep(0, false), REFUSED);
        due.is("prepared, not there", x.keep(3, false), REFUSED);
        x.reopen();
        due.is("off", x.keep(2, false), DONE);
        due.is("off again", x.keep(2, false), DONE);
        x.prepare();
        due.is("input still kept", x.life(1, true), 1);
        due.is("result no more kept", x.life(2, true), 0);
    }

    private static void promise17Count() {
        due.part("promise 17");
        ArenaNetwork x = oneOfEach();
        x.tensor(MADE, 2, 0);
        x.operator(TURN, 1, 1, 2, 0);
        due.is("-1", x.count(-1), REFUSED);
        due.is("6", x.count(6), REFUSED);
        counts(x, 4, 1, 0, -1, 0, 0);
        x.prepare();
        counts(x, 4, 1, 1, -1, 7, 6);
        x.start();
        counts(x, 4, 1, 1, 0, 7, 6);
        x.step();
        counts(x, 4, 1, 1, 1, 7, 6);
        x.start();
        counts(x, 4, 1, 1, 0, 7, 6);
        x.reopen();
        counts(x, 4, 1, 0, -1, 0, 0);
    }

    private static void counts(ArenaNetwork x, int... wanted) {
        for (int what = 0; what < wanted.length; what++) {
            due.is("count(" + what + ")", x.count(what), wanted[what]);
        }
    }
}
