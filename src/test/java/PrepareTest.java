/** Promises 6, 7 and 8: keep, prepare with its faults, and reopen. */
public final class PrepareTest extends Terms {
    public static void main(String[] args) {
        keepAnInputOrMadeOne();
        keepOrNot();
        keepWhenPrepared();
        fault1ResultIsNotMade();
        fault1ResultOfAnEarlierOne();
        fault2SourceIsNotMadeBefore();
        fault2OwnResult();
        fault2InASourceWithoutUse();
        fault3ComesWithEitherCause();
        faultsOfOneOperatorInOrder();
        operatorsInOrder();
        faultOfTheLastOperator();
        keptWithoutOperator();
        keptComesLast();
        preparedAlready();
        elseTheLengthOfTheArena();
        aFaultLeavesItInTheMaking();
        reopenChangesNothing();
        reopenForgetsTheRun();
        reopenWhenNotPrepared();
        due.end();
    }

    private static void keepAnInputOrMadeOne() {
        due.part("promise 6: an input or made one, else REFUSED");
        ArenaNetwork x = network(constant(3, 0), input(3, 0), made(3, 0));
        int[] wrong = {-1, 3, 20, LEAST_INT, GREATEST_INT, 0};
        for (int tensor : wrong) {
            due.is("tensor " + tensor + ", on", x.keep(tensor, true), REFUSED);
            due.is("tensor " + tensor + ", off", x.keep(tensor, false), REFUSED);
        }
        due.is("an input", x.keep(1, true), DONE);
        due.is("a made one", x.keep(2, true), DONE);
        due.is("an input, off", x.keep(1, false), DONE);
        due.is("a made one, off", x.keep(2, false), DONE);
    }

    private static void keepOrNot() {
        due.part("promise 6: is KEPT, or not");
        ArenaNetwork x = chain(2, 4);
        endsAre(x, "not at first", 0, 1, 1);
        x.keep(0, true);
        x.keep(1, true);
        x.keep(1, true);
        endsAre(x, "two of them", 2, 2, 1);
        x.keep(1, false);
        x.keep(2, false);
        endsAre(x, "one of them no more", 2, 1, 1);
    }

    private static void endsAre(ArenaNetwork x, String what, int... ends) {
        x.prepare();
        for (int t = 0; t < ends.length; t++) {
            due.is(what + ", end of " + t, x.life(t, true), ends[t]);
        }
        x.reopen();
    }

    private static void keepWhenPrepared() {
        due.part("promise 6: PREPARED: CLOSED");
        ArenaNetwork x = network(constant(3, 0), input(3, 0));
        x.prepare();
        due.is("on", x.keep(1, true), CLOSED);
        due.is("off", x.keep(1, false), CLOSED);
        due.is("its argument first: a constant", x.keep(0, true), REFUSED);
        due.is("its argument first: not there", x.keep(2, true), REFUSED);
        x.start();
        due.is("in a run", x.keep(1, true), CLOSED);
        due.is("as it was", x.life(1, true), -1);
        x.reopen();
        due.is("reopened", x.keep(1, true), DONE);
    }

    /** Prepare's answer for one operator; 0 is an input, 1 a constant, 2 and 3 are made. */
    private static int answerFor(int kind, int a, int b, int r, int p) {
        ArenaNetwork x = network(input(4, 0), constant(4, 0), made(4, 0), made(4, 0));
        x.operator(kind, a, b, r, p);
        return x.prepare();
    }

    private static void fault1ResultIsNotMade() {
        due.part("promise 7: 1 its result isn't a made tensor");
        due.is("an input", answerFor(TURN, 1, 1, 0, 0), -11);
        due.is("a constant", answerFor(TURN, 0, 0, 1, 0), -11);
        due.is("a made one", answerFor(TURN, 0, 0, 2, 0), 8);
    }

    private static void fault1ResultOfAnEarlierOne() {
        due.part("promise 7: 1 or is the result of an earlier one");
        ArenaNetwork x = chain(1, 4);
        x.operator(TURN, 0, 0, 1, 0);
        due.is("of the one before", x.prepare(), -21);
        x = chain(3, 4);
        x.operator(TURN, 0, 0, 1, 0);
        due.is("of the first of three", x.prepare(), -41);
        x = chain(3, 4);
        x.operator(TURN, 0, 0, 3, 0);
        due.is("of the last of three", x.prepare(), -41);
    }

    private static void fault2SourceIsNotMadeBefore() {
        due.part("promise 7: 2 a source is a made tensor that isn't the result of an earlier one");
        due.is("a", answerFor(ADD, 3, 0, 2, 0), -12);
        due.is("b", answerFor(ADD, 0, 3, 2, 0), -12);
        due.is("both", answerFor(ADD, 3, 3, 2, 0), -12);
        due.is("an input and a constant", answerFor(ADD, 0, 1, 2, 0), 8);
        due.is("a constant and an input", answerFor(ADD, 1, 0, 2, 0), 8);
        ArenaNetwork x = network(input(4, 0), made(4, 0), made(4, 0));
        x.operator(TURN, 1, 1, 2, 0);
        x.operator(TURN, 0, 0, 1, 0);
        due.is("the result of a later one", x.prepare(), -12);
        due.is("the result of the one before", chain(2, 4).prepare(), 8);
        x = chain(2, 4);
        x.tensor(MADE, 4, 0);
        x.operator(ADD, 1, 2, 3, 0);
        due.is("the results of the first and the second", x.prepare(), 12);
    }

    private static void fault2OwnResult() {
        due.part("promise 7: 2 the operator's own result included");
        due.is("a", answerFor(ADD, 2, 0, 2, 0), -12);
        due.is("b", answerFor(ADD, 0, 2, 2, 0), -12);
        due.is("both", answerFor(TURN, 2, 2, 2, 0), -12);
    }

    private static void fault2InASourceWithoutUse() {
        due.part("promise 7: 2 holds of b where the kind has no use for it");
        due.is("TURN", answerFor(TURN, 0, 3, 2, 0), -12);
        due.is("GREATEST", answerFor(GREATEST, 0, 3, 2, 2), -12);
        due.is("MEAN", answerFor(MEAN, 0, 3, 2, 2), -12);
    }

    private static void fault3ComesWithEitherCause() {
        due.part("promise 7: 3 it doesn't fit, or b or p isn't as must be");
        due.is("it doesn't fit", answerFor(GREATEST, 0, 0, 2, 2), -13);
        due.is("b isn't as must be", answerFor(TURN, 0, 1, 2, 0), -13);
        due.is("p isn't as must be", answerFor(TURN, 0, 0, 2, 1), -13);
    }

    private static void faultsOfOneOperatorInOrder() {
        due.part("promise 7: of each at 1, 2, 3");
        due.is("1 before 2", answerFor(TURN, 2, 2, 0, 0), -11);
        due.is("1 before 3", answerFor(TURN, 0, 0, 1, 7), -11);
        due.is("2 before 3", answerFor(TURN, 3, 3, 2, 7), -12);
        due.is("1 before 2 and 3", answerFor(TURN, 3, 2, 0, 7), -11);
    }

    private static void operatorsInOrder() {
        due.part("promise 7: looks at the operators in order");
        ArenaNetwork x = network(input(4, 0), made(4, 0), made(4, 0));
        x.operator(TURN, 0, 0, 1, 7);
        x.operator(TURN, 2, 2, 2, 0);
        x.operator(TURN, 0, 0, 0, 0);
        due.is("3 of the first before 2 and 1 of later ones", x.prepare(), -13);
        x = network(input(4, 0), made(4, 0), made(4, 0));
        x.operator(TURN, 0, 0, 1, 0);
        x.operator(TURN, 2, 2, 2, 0);
        x.operator(TURN, 0, 0, 0, 0);
        due.is("2 of the second before 1 of the third", x.prepare(), -22);
    }

    private static void faultOfTheLastOperator() {
        due.part("promise 7: -10 * (operator + 1) - its number, of operator 13");
        ArenaNetwork x = chain(13, 1);
        x.operator(TURN, 0, 0, 13, 0);
        due.is("1", x.prepare(), -141);
        x = chain(13, 1);
        x.tensor(MADE, 1, 0);
        x.operator(TURN, 14, 14, 14, 0);
        due.is("2", x.prepare(), -142);
        x = chain(13, 1);
        x.tensor(MADE, 1, 0);
        x.operator(TURN, 13, 13, 14, 1);
        due.is("3", x.prepare(), -143);
    }

    private static void keptWithoutOperator() {
        due.part("promise 7: a tensor is KEPT that is a made one without operator: -1000");
        ArenaNetwork x = network(made(4, 0), input(4, 0), constant(4, 0), made(4, 0), made(4, 0));
        x.operator(TURN, 1, 1, 3, 0);
        due.is("without operator, not kept", x.prepare(), 8);
        x.reopen();
        x.keep(1, true);
        x.keep(3, true);
        due.is("an input and a result are kept", x.prepare(), 8);
        x.reopen();
        x.keep(0, true);
        due.is("the first tensor", x.prepare(), -1000);
        x.keep(0, false);
        x.keep(4, true);
        due.is("the last tensor", x.prepare(), -1000);
        due.is("not prepared", x.count(2), 0);
        x.operator(TURN, 1, 1, 4, 0);
        due.is("with an operator", x.prepare(), 12);
        x = network(made(1, 0));
        x.keep(0, true);
        due.is("no operators at all", x.prepare(), -1000);
    }

    private static void keptComesLast() {
        due.part("promise 7: then, behind the operators' faults");
        ArenaNetwork x = network(made(4, 0), input(4, 0), made(4, 0), made(4, 0));
        x.keep(0, true);
        x.operator(TURN, 1, 1, 2, 0);
        x.operator(TURN, 1, 1, 3, 7);
        due.is("a fault and a kept one", x.prepare(), -23);
    }

    private static void preparedAlready() {
        due.part("promise 7: PREPARED already: CLOSED");
        ArenaNetwork x = chain(1, 4);
        due.is("prepare", x.prepare(), 8);
        due.is("again", x.prepare(), CLOSED);
        x.start();
        x.step();
        due.is("in a run", x.prepare(), CLOSED);
        due.is("the run is as it was", x.count(3), 1);
        due.is("the arena is as it was", x.count(4), 8);
    }

    private static void elseTheLengthOfTheArena() {
        due.part("promise 7: else PREPARED: the length of the ARENA");
        ArenaNetwork x = new ArenaNetwork();
        due.is("nothing there", x.prepare(), 0);
        due.is("prepared", x.count(2), 1);
        due.is("one of one cell", chain(0, 1).prepare(), 1);
        due.is("a network of 14 operators on 16 cells", chain(14, 16).prepare(), 32);
    }

    private static void aFaultLeavesItInTheMaking() {
        due.part("promise 7: a fault leaves the network in the making");
        ArenaNetwork x = chain(1, 4);
        x.operator(TURN, 0, 0, 1, 0);
        due.is("a fault", x.prepare(), -21);
        due.is("the same fault", x.prepare(), -21);
        due.is("not prepared", x.count(2), 0);
        due.is("start", x.start(), CLOSED);
        due.is("reopen", x.reopen(), CLOSED);
        due.is("offset", x.offset(0), REFUSED);
        due.is("life", x.life(0, false), NONE);
        due.is("placed", x.placed(0), REFUSED);
        due.is("tensor", x.tensor(MADE, 4, 0), 2);
    }

    private static ArenaNetwork runUnderWay() {
        ArenaNetwork x = chain(2, 2);
        x.tensor(CONSTANT, 2, 0);
        setCells(x, 0, 3, 5);
        setCells(x, 3, 0, 4);
        x.scale(3, WHOLE, 1);
        x.keep(0, true);
        x.prepare();
        x.start();
        x.step();
        return x;
    }

    private static void reopenChangesNothing() {
        due.part("promise 8: in the making again, nothing of it changed: DONE");
        ArenaNetwork x = runUnderWay();
        due.is("reopen", x.reopen(), DONE);
        due.is("in the making", x.count(2), 0);
        due.is("tensors", x.count(0), 4);
        due.is("operators", x.count(1), 2);
        due.is("a scale", x.scaled(3, 10), 5);
        cellsAre("a constant", x, 3, 0, 4);
        due.is("prepare", x.prepare(), 10);
        due.is("still kept", x.life(0, true), 2);
        due.is("start", x.start(), 2);
        cellsAre("an input as it was set", x, 0, 3, 5);
        x.finish();
        cellsAre("a result", x, 2, 3, 5);
        x.reopen();
        due.is("a tensor more", x.tensor(MADE, 2, 0), 4);
        due.is("an operator more", x.operator(TURN, 2, 2, 4, 0), 2);
        due.is("prepare", x.prepare(), 10);
    }

    private static void reopenForgetsTheRun() {
        due.part("promise 8: a run under way is forgotten");
        ArenaNetwork x = runUnderWay();
        x.reopen();
        hasNoRun(x, "reopened");
        x.prepare();
        hasNoRun(x, "prepared again");
    }

    private static void hasNoRun(ArenaNetwork x, String when) {
        due.is(when + ", done", x.count(3), -1);
        due.is(when + ", step", x.step(), CLOSED);
        due.is(when + ", finish", x.finish(), CLOSED);
        due.is(when + ", an input's cell", x.cell(0, 0), NONE);
        due.is(when + ", a result's cell", x.cell(1, 0), NONE);
    }

    private static void reopenWhenNotPrepared() {
        due.part("promise 8: it isn't PREPARED: CLOSED");
        ArenaNetwork x = chain(1, 2);
        due.is("in the making", x.reopen(), CLOSED);
        x.prepare();
        due.is("prepared", x.reopen(), DONE);
        due.is("reopened already", x.reopen(), CLOSED);
    }
}
