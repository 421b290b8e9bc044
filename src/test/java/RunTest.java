/** Promises 9 to 12: a run, and what can be read of it. */
public final class RunTest extends Terms {
    public static void main(String[] args) {
        promise9Start();
        promise9StartTakesInputs();
        promise9WithoutOperators();
        promise10Step();
        promise11Finish();
        promise12CellsWhileTheyLive();
        promise12Constants();
        promise12OutOfRange();
        due.end();
    }

    /** Input 0 turned into 1, that into 2, that into 3, and a constant 4; all of two cells. */
    private static ArenaNetwork chain() {
        ArenaNetwork x = new ArenaNetwork();
        x.tensor(INPUT, 2, 0);
        for (int i = 0; i < 3; i++) {
            x.tensor(MADE, 2, 0);
            x.operator(TURN, i, i, i + 1, 0);
        }
        x.tensor(CONSTANT, 2, 0);
        x.set(0, 0, 10);
        x.set(0, 1, 20);
        return x;
    }

    private static void promise9Start() {
        due.part("promise 9");
        ArenaNetwork x = chain();
        due.is("in the making", x.start(), CLOSED);
        due.is("no run", x.count(3), -1);
        x.prepare();
        due.is("prepared alone is no run", x.count(3), -1);
        due.is("start", x.start(), 3);
        due.is("none done", x.count(3), 0);
        x.step();
        x.step();
        due.is("two done", x.count(3), 2);
        due.is("start anew", x.start(), 3);
        due.is("none done anew", x.count(3), 0);
        due.is("the first result is gone", x.cell(1, 0), NONE);
        due.is("the first operator anew", x.step(), 0);
        x.finish();
        due.is("start after the end", x.start(), 3);
        due.is("all to be done", x.finish(), 3);
        x.reopen();
        due.is("reopened", x.start(), CLOSED);
    }

    private static void promise9StartTakesInputs() {
        due.part("promise 9, inputs");
        ArenaNetwork x = chain();
        x.prepare();
        x.start();
        x.set(0, 0, 30);
        due.is("as taken", x.cell(0, 0), 10);
        x.step();
        due.is("the operator takes it so too", x.cell(1, 1), 10);
        x.start();
        due.is("taken anew", x.cell(0, 0), 30);
        due.is("what was set long ago", x.cell(0, 1), 20);
        x.step();
        due.is("the operator takes it anew", x.cell(1, 1), 30);
    }

    private static void promise9WithoutOperators() {
        due.part("promise 9, no operators");
        ArenaNetwork x = new ArenaNetwork();
        x.prepare();
        due.is("step without a run", x.step(), CLOSED);
        due.is("finish without a run", x.finish(), CLOSED);
        due.is("start", x.start(), 0);
        due.is("step", x.step(), CLOSED);
        due.is("finish", x.finish(), 0);
        due.is("done", x.count(3), 0);
    }

    private static void promise10Step() {
        due.part("promise 10");
        ArenaNetwork x = chain();
        due.is("in the making", x.step(), CLOSED);
        x.prepare();
        due.is("no run", x.step(), CLOSED);
        x.start();
        for (int i = 0; i < 3; i++) {
            due.is("step", x.step(), i);
            due.is("done", x.count(3), i + 1);
            due.is("its first cell", x.cell(i + 1, 0), i % 2 == 0 ? 20 : 10);
            due.is("its second cell", x.cell(i + 1, 1), i % 2 == 0 ? 10 : 20);
        }
        due.is("all done", x.step(), CLOSED);
        due.is("still all done", x.count(3), 3);
        due.is("the last result is still there", x.cell(3, 0), 20);
    }

    private static void promise11Finish() {
        due.part("promise 11");
        ArenaNetwork x = chain();
        due.is("in the making", x.finish(), CLOSED);
        x.prepare();
        due.is("no run", x.finish(), CLOSED);
        x.start();
        due.is("all", x.finish(), 3);
        due.is("the last result", x.cell(3, 1), 10);
        due.is("none left", x.finish(), 0);
        x.start();
        x.step();
        due.is("the other two", x.finish(), 2);
        due.is("done", x.count(3), 3);
        due.is("the last result again", x.cell(3, 1), 10);
        due.is("no step left", x.step(), CLOSED);
    }

    /** Which of the tensors 0 .. 3 have cells, as one text. */
    private static String living(ArenaNetwork x) {
        StringBuilder text = new StringBuilder();
        for (int t = 0; t < 4; t++) {
            text.append(x.cell(t, 0) == NONE ? '-' : '+').append(x.cell(t, 1) == NONE ? '-' : '+');
        }
        return text.toString();
    }

    private static void livingInARun(ArenaNetwork x, String... wanted) {
        x.start();
        for (String each : wanted) {
            String got = living(x);
            due.is("living " + got + " where " + each + " is due", got.equals(each) ? 1 : 0, 1);
            x.step();
        }
    }

    private static void promise12CellsWhileTheyLive() {
        due.part("promise 12");
        ArenaNetwork x = chain();
        due.is("in the making", x.cell(0, 0), NONE);
        x.prepare();
        due.is("without a run", x.cell(0, 0), NONE);
        livingInARun(x, "++------", "++++----", "--++++--", "----++++");
        x.reopen();
        x.keep(0, true);
        x.keep(2, true);
        x.prepare();
        livingInARun(x, "++------", "++++----", "++++++--", "++--++++");

        // An input and a result that no operator has as a source.
        x = new ArenaNetwork();
        x.tensor(INPUT, 2, 0);
        x.tensor(INPUT, 2, 0);
        x.tensor(MADE, 2, 0);
        x.tensor(MADE, 2, 0);
        x.operator(TURN, 0, 0, 2, 0);
        x.operator(TURN, 0, 0, 3, 0);
        x.prepare();
        livingInARun(x, "++++----", "++--++--", "++----++");
    }

    private static void promise12Constants() {
        due.part("promise 12, constants");
        ArenaNetwork x = chain();
        x.set(4, 1, -7);
        due.is("in the making", x.cell(4, 1), -7);
        x.prepare();
        due.is("prepared", x.cell(4, 1), -7);
        x.start();
        x.finish();
        due.is("after a run", x.cell(4, 1), -7);
        due.is("its other cell", x.cell(4, 0), 0);
    }

    private static void promise12OutOfRange() {
        due.part("promise 12, out of range");
        ArenaNetwork x = chain();
        x.tensor(MADE, 2, 0);
        x.prepare();
        x.start();
        x.step();
        due.is("tensor -1", x.cell(-1, 0), NONE);
        due.is("tensor 6", x.cell(6, 0), NONE);
        due.is("a made one without life", x.cell(5, 0), NONE);
        for (int tensor = 0; tensor < 5; tensor++) {
            due.is("index -1", x.cell(tensor, -1), NONE);
            due.is("index 2", x.cell(tensor, 2), NONE);
        }
        due.is("far out", x.cell(Integer.MAX_VALUE, Integer.MIN_VALUE), NONE);
    }
}
