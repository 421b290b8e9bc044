/** Promise 17: count. */
public final class CountTest extends Terms {
    public static void main(String[] args) {
        tensors();
        operators();
        prepared();
        operatorsDone();
        lengthOfTheArena();
        sumOfLengths();
        anotherWhat();
        due.end();
    }

    private static void tensors() {
        due.part("promise 17: tensors (0)");
        ArenaNetwork x = new ArenaNetwork();
        due.is("none", x.count(0), 0);
        for (int i = 0; i < 20; i++) {
            x.tensor(i % 3, 1, 0);
            due.is("count", x.count(0), i + 1);
        }
        x.tensor(INPUT, 1, 0);
        due.is("full", x.count(0), 20);
        x.prepare();
        due.is("prepared", x.count(0), 20);
    }

    private static void operators() {
        due.part("promise 17: operators (1)");
        ArenaNetwork x = network(input(1, 0));
        due.is("none", x.count(1), 0);
        for (int i = 0; i < 14; i++) {
            x.tensor(MADE, 1, 0);
            x.operator(TURN, i, i, i + 1, 0);
            due.is("count", x.count(1), i + 1);
        }
        x.operator(TURN, 0, 0, 1, 0);
        due.is("full", x.count(1), 14);
        x.prepare();
        due.is("prepared", x.count(1), 14);
    }

    private static void prepared() {
        due.part("promise 17: 1 if PREPARED, else 0 (2)");
        ArenaNetwork x = chain(1, 1);
        due.is("in the making", x.count(2), 0);
        x.operator(TURN, 0, 0, 1, 0);
        x.prepare();
        due.is("refused by prepare", x.count(2), 0);
        x = chain(1, 1);
        x.prepare();
        due.is("prepared", x.count(2), 1);
        x.start();
        x.finish();
        due.is("after a run", x.count(2), 1);
        x.reopen();
        due.is("reopened", x.count(2), 0);
    }

    private static void operatorsDone() {
        due.part("promise 17: operators done in the run under way, -1 without a run (3)");
        ArenaNetwork x = chain(14, 1);
        due.is("in the making", x.count(3), -1);
        x.prepare();
        due.is("prepared", x.count(3), -1);
        x.start();
        due.is("started", x.count(3), 0);
        for (int i = 0; i < 14; i++) {
            x.step();
            due.is("a step more", x.count(3), i + 1);
        }
        x.step();
        due.is("no step left", x.count(3), 14);
        x.start();
        due.is("started anew", x.count(3), 0);
        x.finish();
        due.is("finished", x.count(3), 14);
        x.reopen();
        due.is("reopened", x.count(3), -1);
        x.prepare();
        due.is("prepared again", x.count(3), -1);
    }

    private static void lengthOfTheArena() {
        due.part("promise 17: the length of the ARENA, 0 if not PREPARED (4)");
        ArenaNetwork x = network(input(5, 0), input(6, 0));
        due.is("in the making", x.count(4), 0);
        x.prepare();
        due.is("prepared", x.count(4), 13);
        x.start();
        due.is("in a run", x.count(4), 13);
        x.reopen();
        due.is("reopened", x.count(4), 0);
        x = network(constant(64, 0), made(16, 0));
        x.prepare();
        due.is("nothing with a life", x.count(4), 0);
    }

    private static void sumOfLengths() {
        due.part("promise 17: the sum of the LENGTHS of tensors with a LIFE, 0 if not PREPARED (5)");
        ArenaNetwork x = chain(3, 5);
        x.tensor(CONSTANT, 64, 0);
        x.tensor(MADE, 16, 0);
        x.tensor(INPUT, 2, 0);
        due.is("in the making", x.count(5), 0);
        x.prepare();
        due.is("the chain and the input alone", x.count(5), 22);
        due.is("more than the arena", x.count(4), 13);
        x.start();
        due.is("in a run", x.count(5), 22);
        x.reopen();
        due.is("reopened", x.count(5), 0);
        x = new ArenaNetwork();
        x.prepare();
        due.is("nothing with a life", x.count(5), 0);
        x = network(filledWithInputs());
        x.prepare();
        due.is("the greatest sum", x.count(5), 320);
    }

    private static int[][] filledWithInputs() {
        int[][] tensors = new int[20][];
        java.util.Arrays.fill(tensors, input(16, 0));
        return tensors;
    }

    private static void anotherWhat() {
        due.part("promise 17: another what: REFUSED");
        ArenaNetwork x = chain(1, 1);
        wrongWhats(x);
        x.prepare();
        x.start();
        wrongWhats(x);
    }

    private static void wrongWhats(ArenaNetwork x) {
        int[] wrong = {-1, 6, LEAST_INT, GREATEST_INT};
        for (int what : wrong) {
            due.is("count(" + what + ")", x.count(what), REFUSED);
        }
    }
}
