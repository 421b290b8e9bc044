/** The term OPERATORS, and promise 5: operator. */
public final class OperatorTest extends Terms {
    public static void main(String[] args) {
        numberedFrom0();
        atMost14();
        kinds();
        tensorsThatAreThere();
        settings();
        whenPrepared();
        testsItsArgumentsFirst();
        goodOrNotIsNotLookedAt();
        due.end();
    }

    private static ArenaNetwork oneOfEach() {
        return network(constant(3, 0), input(3, 0), made(3, 0));
    }

    private static void numberedFrom0() {
        due.part("operators are numbered 0, 1, ..");
        ArenaNetwork x = oneOfEach();
        due.is("the first", x.operator(ADD, 1, 1, 2, 0), 0);
        due.is("a refused one", x.operator(ADD, 1, 1, 3, 0), REFUSED);
        x.prepare();
        due.is("a closed one", x.operator(ADD, 1, 1, 2, 0), CLOSED);
        x.reopen();
        due.is("the second", x.operator(TURN, 1, 1, 2, 0), 1);
        due.is("two are there", x.count(1), 2);
    }

    private static void atMost14() {
        due.part("promise 5: 14 are there: FULL");
        ArenaNetwork x = chain(0, 1);
        for (int i = 0; i < 14; i++) {
            x.tensor(MADE, 1, 0);
            due.is("operator", x.operator(TURN, i, i, i + 1, 0), i);
        }
        due.is("a 15th", x.operator(TURN, 0, 0, 1, 0), FULL);
        due.is("a 15th of another kind", x.operator(DENSE, 0, 0, 1, 7), FULL);
        due.is("still 14", x.count(1), 14);
        due.is("all of them are good", x.prepare(), 5);
    }

    private static void kinds() {
        due.part("promise 5: kind (0 .. 7)");
        ArenaNetwork x = oneOfEach();
        int[] wrong = {-1, 8, LEAST_INT, GREATEST_INT};
        for (int kind : wrong) {
            due.is("kind " + kind, x.operator(kind, 1, 1, 2, 0), REFUSED);
        }
        for (int kind = 0; kind <= 7; kind++) {
            due.is("kind " + kind, x.operator(kind, 1, 1, 2, 0), kind);
        }
    }

    private static void tensorsThatAreThere() {
        due.part("promise 5: tensors that are there");
        ArenaNetwork x = oneOfEach();
        int[] wrong = {-1, 3, 20, LEAST_INT, GREATEST_INT};
        for (int tensor : wrong) {
            due.is("a " + tensor, x.operator(ADD, tensor, 1, 2, 0), REFUSED);
            due.is("b " + tensor, x.operator(ADD, 1, tensor, 2, 0), REFUSED);
            due.is("r " + tensor, x.operator(ADD, 1, 1, tensor, 0), REFUSED);
        }
        due.is("none is there", x.count(1), 0);
        due.is("the first tensor", x.operator(ADD, 0, 0, 0, 0), 0);
        due.is("the last tensor", x.operator(ADD, 2, 2, 2, 0), 1);
    }

    private static void settings() {
        due.part("promise 5: a setting p of 0 .. 7");
        ArenaNetwork x = oneOfEach();
        int[] wrong = {-1, 8, LEAST_INT, GREATEST_INT};
        for (int kind = 0; kind <= 7; kind++) {
            for (int p : wrong) {
                due.is("kind " + kind + ", p " + p, x.operator(kind, 1, 1, 2, p), REFUSED);
            }
        }
        for (int p = 0; p <= 7; p++) {
            due.is("p " + p, x.operator(ADD, 1, 1, 2, p), p);
        }
    }

    private static void whenPrepared() {
        due.part("promise 5: PREPARED: CLOSED");
        ArenaNetwork x = oneOfEach();
        x.prepare();
        due.is("prepared", x.operator(ADD, 1, 1, 2, 0), CLOSED);
        x.start();
        due.is("in a run", x.operator(ADD, 1, 1, 2, 0), CLOSED);
        due.is("none is there", x.count(1), 0);
        x.reopen();
        due.is("reopened", x.operator(ADD, 1, 1, 2, 0), 0);
    }

    private static void testsItsArgumentsFirst() {
        due.part("promise 5: REFUSED before CLOSED before FULL");
        ArenaNetwork x = chain(14, 1);
        isRefused(x, "full");
        x.prepare();
        isRefused(x, "prepared and full");
        due.is("prepared and full", x.operator(TURN, 0, 0, 1, 0), CLOSED);
        x.reopen();
        due.is("full again", x.operator(TURN, 0, 0, 1, 0), FULL);
    }

    private static void isRefused(ArenaNetwork x, String when) {
        due.is(when + ", kind", x.operator(8, 0, 0, 1, 0), REFUSED);
        due.is(when + ", a", x.operator(TURN, 15, 0, 1, 0), REFUSED);
        due.is(when + ", b", x.operator(TURN, 0, 15, 1, 0), REFUSED);
        due.is(when + ", r", x.operator(TURN, 0, 0, 15, 0), REFUSED);
        due.is(when + ", p", x.operator(TURN, 0, 0, 1, 8), REFUSED);
    }

    private static void goodOrNotIsNotLookedAt() {
        due.part("promise 5: whether it's good is not looked at here");
        ArenaNetwork x = network(constant(3, 0), input(3, 0), made(3, 0), made(4, 1));
        due.is("a good one", x.operator(TURN, 1, 1, 2, 0), 0);
        due.is("the same result", x.operator(TURN, 1, 1, 2, 0), 1);
        due.is("a constant as its result", x.operator(TURN, 1, 1, 0, 0), 2);
        due.is("an input as its result", x.operator(TURN, 1, 1, 1, 0), 3);
        due.is("its own result as a source", x.operator(TURN, 3, 3, 3, 0), 4);
        due.is("lengths that don't fit", x.operator(ADD, 1, 1, 3, 0), 5);
        due.is("b not as must be", x.operator(TURN, 1, 0, 2, 0), 6);
        due.is("p not as must be", x.operator(TURN, 1, 1, 2, 7), 7);
    }
}
