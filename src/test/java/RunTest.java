/** Promises 9 to 12: start, step, finish, and the cells of a run as long as they live. */
public final class RunTest extends Terms {
    public static void main(String[] args) {
        startWhenARunIsUnderWay();
        startTakesTheInputsAsTheyAreSetNow();
        startWhenNotPrepared();
        startAnswersTheNumberOfOperators();
        stepDoesTheNextOperator();
        stepWhenNotPreparedOrNoRun();
        stepWhenAllAreDone();
        finishDoesWhatIsNotDone();
        finishWhenNotPreparedOrNoRun();
        runWithoutOperators();
        cellOfAConstant();
        cellWhenItsLifeBeginsBelowK();
        cellWhenItsLifeEndsAtKMinus1OrLater();
        cellOfKeptOnes();
        cellWithoutUse();
        cellWithoutARun();
        cellOutOfRange();
        cellWithoutLife();
        sharedPlacesKeepTheirCells();
        aRunIsOfTheNetworkPreparedLast();
        due.end();
    }

    /** A chain of three operators on two cells, 10 and 20. */
    private static ArenaNetwork three() {
        ArenaNetwork x = chain(3, 2);
        setCells(x, 0, 10, 20);
        return x;
    }

    private static ArenaNetwork prepared(ArenaNetwork x) {
        x.prepare();
        return x;
    }

    private static void startWhenARunIsUnderWay() {
        due.part("promise 9: begins a run, also when one is under way");
        ArenaNetwork x = prepared(three());
        due.is("start", x.start(), 3);
        due.is("none done", x.count(3), 0);
        x.step();
        x.step();
        due.is("start when two are done", x.start(), 3);
        due.is("none done", x.count(3), 0);
        due.is("the first result is gone", x.cell(1, 0), NONE);
        due.is("the second result is gone", x.cell(2, 0), NONE);
        due.is("the input is there", x.cell(0, 0), 10);
        due.is("the first operator again", x.step(), 0);
        x.finish();
        due.is("start when all are done", x.start(), 3);
        due.is("all to be done", x.finish(), 3);
        x.start();
        due.is("start when none is done", x.start(), 3);
        due.is("all to be done", x.finish(), 3);
    }

    private static void startTakesTheInputsAsTheyAreSetNow() {
        due.part("promise 9: the inputs' cells are taken as they are set now");
        ArenaNetwork x = prepared(three());
        x.set(0, 0, 11);
        x.start();
        cellsAre("set before", x, 0, 11, 20);
        x.set(0, 0, 12);
        x.set(0, 1, 13);
        cellsAre("set behind it", x, 0, 11, 20);
        x.step();
        cellsAre("the operator takes what start took", x, 1, 20, 11);
        x.set(0, 1, -128);
        x.start();
        cellsAre("the last values set", x, 0, 12, -128);
        x.step();
        cellsAre("the operator takes them", x, 1, -128, 12);
    }

    private static void startWhenNotPrepared() {
        due.part("promise 9: not PREPARED: CLOSED");
        ArenaNetwork x = three();
        due.is("in the making", x.start(), CLOSED);
        due.is("no run", x.count(3), -1);
        x.prepare();
        x.start();
        x.reopen();
        due.is("reopened", x.start(), CLOSED);
        due.is("no run", x.count(3), -1);
    }

    private static void startAnswersTheNumberOfOperators() {
        due.part("promise 9: answers the number of operators");
        due.is("0", prepared(chain(0, 1)).start(), 0);
        due.is("1", prepared(chain(1, 1)).start(), 1);
        due.is("14", prepared(chain(14, 1)).start(), 14);
    }

    private static void stepDoesTheNextOperator() {
        due.part("promise 10: does the next operator of the run, answers its number");
        ArenaNetwork x = prepared(chain(14, 2));
        setCells(x, 0, 10, 20);
        x.start();
        for (int i = 0; i < 14; i++) {
            due.is("step", x.step(), i);
            due.is("done", x.count(3), i + 1);
            due.is("the next is not done", x.cell(i + 2, 0), NONE);
            cellsAre("its result", x, i + 1, i % 2 == 0 ? 20 : 10, i % 2 == 0 ? 10 : 20);
        }
    }

    private static void stepWhenNotPreparedOrNoRun() {
        due.part("promise 10: not PREPARED, no run: CLOSED");
        ArenaNetwork x = three();
        due.is("in the making", x.step(), CLOSED);
        x.prepare();
        due.is("no run", x.step(), CLOSED);
        due.is("still no run", x.count(3), -1);
        x.start();
        x.reopen();
        due.is("reopened", x.step(), CLOSED);
        x.prepare();
        due.is("prepared again", x.step(), CLOSED);
    }

    private static void stepWhenAllAreDone() {
        due.part("promise 10: all are done: CLOSED");
        ArenaNetwork x = prepared(three());
        x.start();
        for (int i = 0; i < 3; i++) {
            due.is("step", x.step(), i);
        }
        due.is("one more", x.step(), CLOSED);
        due.is("and one more", x.step(), CLOSED);
        due.is("three are done", x.count(3), 3);
        cellsAre("the last result", x, 3, 20, 10);
        x.start();
        x.finish();
        due.is("behind finish", x.step(), CLOSED);
    }

    private static void finishDoesWhatIsNotDone() {
        due.part("promise 11: does all operators that are not done, answers how many");
        for (int steps = 0; steps <= 3; steps++) {
            ArenaNetwork x = prepared(three());
            x.start();
            for (int i = 0; i < steps; i++) {
                x.step();
            }
            due.is("finish behind " + steps, x.finish(), 3 - steps);
            due.is("done", x.count(3), 3);
            cellsAre("the last result", x, 3, 20, 10);
            due.is("finish again", x.finish(), 0);
            due.is("still done", x.count(3), 3);
            cellsAre("the last result again", x, 3, 20, 10);
        }
        ArenaNetwork x = prepared(chain(14, 1));
        x.start();
        due.is("14", x.finish(), 14);
    }

    private static void finishWhenNotPreparedOrNoRun() {
        due.part("promise 11: not PREPARED or no run: CLOSED");
        ArenaNetwork x = three();
        due.is("in the making", x.finish(), CLOSED);
        x.prepare();
        due.is("no run", x.finish(), CLOSED);
        due.is("still no run", x.count(3), -1);
        x.start();
        x.reopen();
        due.is("reopened", x.finish(), CLOSED);
        x.prepare();
        due.is("prepared again", x.finish(), CLOSED);
    }

    private static void runWithoutOperators() {
        due.part("a run without operators");
        ArenaNetwork x = network(input(1, 0), input(1, 0));
        x.set(0, 0, 5);
        x.keep(1, true);
        x.prepare();
        due.is("start", x.start(), 0);
        due.is("step", x.step(), CLOSED);
        due.is("finish", x.finish(), 0);
        due.is("done", x.count(3), 0);
        due.is("an input", x.cell(0, 0), 5);
        due.is("a kept input", x.cell(1, 0), 0);
    }

    private static void cellOfAConstant() {
        due.part("promise 12: a constant's cell, at any time");
        ArenaNetwork x = three();
        x.tensor(CONSTANT, 2, 0);
        x.set(4, 1, -7);
        cellsAre("in the making", x, 4, 0, -7);
        x.prepare();
        cellsAre("prepared", x, 4, 0, -7);
        x.start();
        cellsAre("in a run", x, 4, 0, -7);
        x.finish();
        cellsAre("when all are done", x, 4, 0, -7);
        x.reopen();
        cellsAre("reopened", x, 4, 0, -7);
    }

    /** Which of the tensors have cells when 0, 1, .. operators are done: + or - for each. */
    private static void living(ArenaNetwork x, String... wanted) {
        x.prepare();
        x.start();
        for (int k = 0; k < wanted.length; k++) {
            for (int t = 0; t < wanted[k].length(); t++) {
                int there = x.cell(t, 0) == NONE ? 0 : 1;
                due.is(k + " done, tensor " + t + " is there", there, wanted[k].charAt(t) == '+' ? 1 : 0);
            }
            x.step();
        }
    }

    private static void cellWhenItsLifeBeginsBelowK() {
        due.part("promise 12: if its LIFE begins below k");
        ArenaNetwork x = three();
        for (int t = 0; t < 4; t++) {
            x.keep(t, true);
        }
        living(x, "+---", "++--", "+++-", "++++");
    }

    private static void cellWhenItsLifeEndsAtKMinus1OrLater() {
        due.part("promise 12: and ends at k - 1 or later");
        living(three(), "+---", "++--", "-++-", "--++");
        ArenaNetwork x = network(input(1, 0), made(1, 0), made(1, 0), made(1, 0));
        x.operator(TURN, 0, 0, 1, 0);
        x.operator(TURN, 0, 0, 2, 0);
        x.operator(TURN, 1, 1, 3, 0);
        living(x, "+---", "++--", "+++-", "-+-+");
    }

    private static void cellOfKeptOnes() {
        due.part("promise 12: a KEPT one lives to the end of the run");
        ArenaNetwork x = three();
        x.keep(0, true);
        x.keep(2, true);
        living(x, "+---", "++--", "+++-", "+-++");
        cellsAre("the input", x, 0, 10, 20);
        cellsAre("the result", x, 2, 10, 20);
    }

    private static void cellWithoutUse() {
        due.part("promise 12: an input or result that is no source");
        ArenaNetwork x = network(input(1, 0), input(1, 0), made(1, 0), made(1, 0));
        x.operator(TURN, 0, 0, 2, 0);
        x.operator(TURN, 0, 0, 3, 0);
        living(x, "++--", "+-+-", "+--+");
    }

    private static void cellWithoutARun() {
        due.part("promise 12: NONE without a run");
        ArenaNetwork x = three();
        x.keep(0, true);
        due.is("in the making", x.cell(0, 0), NONE);
        x.prepare();
        due.is("prepared", x.cell(0, 0), NONE);
        x.start();
        x.finish();
        due.is("in a run", x.cell(0, 0), 10);
        x.reopen();
        due.is("reopened", x.cell(0, 0), NONE);
        due.is("reopened, a result", x.cell(3, 0), NONE);
        x.prepare();
        due.is("prepared again", x.cell(0, 0), NONE);
        due.is("prepared again, a result", x.cell(3, 0), NONE);
    }

    private static void cellOutOfRange() {
        due.part("promise 12: NONE for numbers out of range");
        ArenaNetwork x = network(constant(64, 0), input(16, 0), made(16, 0));
        x.operator(TURN, 1, 1, 2, 0);
        cellsOutOfRange(x);
        x.prepare();
        x.start();
        x.step();
        cellsOutOfRange(x);
        due.is("a constant's last", x.cell(0, 63), 0);
        due.is("an input's last", x.cell(1, 15), 0);
        due.is("a result's last", x.cell(2, 15), 0);
    }

    private static void cellsOutOfRange(ArenaNetwork x) {
        int[] tensors = {-1, 3, 20, LEAST_INT, GREATEST_INT};
        for (int tensor : tensors) {
            due.is("tensor " + tensor, x.cell(tensor, 0), NONE);
        }
        int[] lengths = {64, 16, 16};
        for (int t = 0; t < 3; t++) {
            int[] indices = {-1, lengths[t], LEAST_INT, GREATEST_INT};
            for (int index : indices) {
                due.is("tensor " + t + ", index " + index, x.cell(t, index), NONE);
            }
        }
    }

    private static void cellWithoutLife() {
        due.part("promise 12: NONE for a made one without LIFE");
        ArenaNetwork x = three();
        x.tensor(MADE, 2, 0);
        x.prepare();
        x.start();
        due.is("at the start", x.cell(4, 0), NONE);
        x.finish();
        due.is("at the end", x.cell(4, 0), NONE);
    }

    private static void sharedPlacesKeepTheirCells() {
        due.part("tensors that share cells of the ARENA one after another");
        ArenaNetwork x = prepared(three());
        due.is("0 and 2 share", x.offset(2), x.offset(0));
        due.is("1 and 3 share", x.offset(3), x.offset(1));
        for (int run = 0; run < 2; run++) {
            x.start();
            cellsAre("the input", x, 0, 10, 20);
            x.step();
            cellsAre("the first result", x, 1, 20, 10);
            x.step();
            cellsAre("the second result", x, 2, 10, 20);
            cellsAre("the first result, a source still", x, 1, 20, 10);
            x.step();
            cellsAre("the third result", x, 3, 20, 10);
        }
    }

    private static void aRunIsOfTheNetworkPreparedLast() {
        due.part("a run behind changes of a reopened network");
        ArenaNetwork x = network(input(1, 0), constant(1, 0), made(1, 0), made(1, 0));
        x.set(0, 0, 20);
        x.set(1, 0, 2);
        x.operator(MUL, 0, 1, 2, 0);
        x.prepare();
        x.start();
        x.finish();
        due.is("half of 20 * 2", x.cell(2, 0), 20);
        x.reopen();
        x.set(1, 0, 3);
        x.scale(0, WHOLE, 0);
        x.operator(ADD, 2, 2, 3, 1);
        x.prepare();
        due.is("start", x.start(), 2);
        x.step();
        due.is("20 * 3", x.cell(2, 0), 60);
        x.step();
        due.is("half of 60 + 60", x.cell(3, 0), 60);
    }
}
