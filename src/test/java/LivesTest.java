/** The term LIVES, and promise 14: life. */
public final class LivesTest extends Terms {
    public static void main(String[] args) {
        inputsBeginAtMinus1();
        resultsBeginAtTheirOperator();
        endsAtTheGreatestSource();
        endsAtItsBeginning();
        endsAtNIfKept();
        withoutALife();
        notThere();
        notPrepared();
        livesOfTheNetworkAsItIsNow();
        due.end();
    }

    private static void lives(ArenaNetwork x, int tensor, int begin, int end) {
        due.is("life(" + tensor + ", false)", x.life(tensor, false), begin);
        due.is("life(" + tensor + ", true)", x.life(tensor, true), end);
    }

    private static void inputsBeginAtMinus1() {
        due.part("an input's LIFE begins at -1");
        ArenaNetwork x = network(input(1, 0), input(1, 0), input(1, 0), made(1, 0));
        x.operator(ADD, 0, 0, 3, 0);
        x.keep(2, true);
        x.prepare();
        due.is("a source", x.life(0, false), -1);
        due.is("no source", x.life(1, false), -1);
        due.is("a kept one", x.life(2, false), -1);
    }

    private static void resultsBeginAtTheirOperator() {
        due.part("that of a result at the number of its operator");
        ArenaNetwork x = chain(14, 1);
        x.prepare();
        for (int i = 0; i < 14; i++) {
            due.is("the result of operator " + i, x.life(i + 1, false), i);
        }
        x = network(made(1, 0), made(1, 0), input(1, 0));
        x.operator(TURN, 2, 2, 1, 0);
        x.operator(TURN, 2, 2, 0, 0);
        x.keep(1, true);
        x.prepare();
        due.is("not at its own number", x.life(0, false), 1);
        due.is("kept", x.life(1, false), 0);
    }

    private static void endsAtTheGreatestSource() {
        due.part("a LIFE ends at the greatest number of an operator that has it as a source");
        ArenaNetwork x = network(input(4, 0), input(4, 0), input(4, 0), input(4, 0), constant(4, 0));
        for (int i = 0; i < 14; i++) {
            x.tensor(MADE, 4, 0);
            int a = i == 0 ? 0 : i == 3 ? 1 : i == 13 ? 2 : 4;
            int b = i == 1 ? 1 : i == 2 ? 5 : i == 5 ? 3 : i == 13 ? 5 : 4;
            x.operator(ADD, a, b, 5 + i, 0);
        }
        x.prepare();
        lives(x, 0, -1, 0);
        lives(x, 1, -1, 3);
        lives(x, 2, -1, 13);
        lives(x, 3, -1, 5);
        lives(x, 5, 0, 13);
        due.is("a source as a and b", endOfASourceTwice(), 1);
    }

    private static int endOfASourceTwice() {
        ArenaNetwork x = network(input(4, 0), input(4, 0), made(4, 0), made(4, 0), made(4, 0));
        x.operator(TURN, 0, 0, 2, 0);
        x.operator(ADD, 1, 1, 3, 0);
        x.operator(TURN, 0, 0, 4, 0);
        x.prepare();
        return x.life(1, true);
    }

    private static void endsAtItsBeginning() {
        due.part("or at its beginning if there is none");
        ArenaNetwork x = network(input(4, 0), input(4, 0), made(4, 0), made(4, 0));
        x.operator(TURN, 0, 0, 2, 0);
        x.operator(TURN, 0, 0, 3, 0);
        x.prepare();
        lives(x, 1, -1, -1);
        lives(x, 2, 0, 0);
        lives(x, 3, 1, 1);
    }

    private static void endsAtNIfKept() {
        due.part("or at n if the tensor is KEPT");
        ArenaNetwork x = network(input(4, 0), input(4, 0), made(4, 0), made(4, 0));
        x.operator(TURN, 0, 0, 2, 0);
        x.operator(TURN, 0, 0, 3, 0);
        for (int t = 0; t < 4; t++) {
            x.keep(t, true);
        }
        x.prepare();
        lives(x, 0, -1, 2);
        lives(x, 1, -1, 2);
        lives(x, 2, 0, 2);
        lives(x, 3, 1, 2);
        x = network(input(4, 0));
        x.keep(0, true);
        x.prepare();
        lives(x, 0, -1, 0);
        x = chain(14, 1);
        x.keep(0, true);
        x.keep(14, true);
        x.prepare();
        lives(x, 0, -1, 14);
        lives(x, 14, 13, 14);
    }

    private static void withoutALife() {
        due.part("promise 14: NONE if it has no LIFE");
        ArenaNetwork x = network(constant(4, 0), input(4, 0), made(4, 0), made(4, 0), constant(4, 0));
        x.operator(ADD, 1, 0, 2, 0);
        x.prepare();
        lives(x, 0, NONE, NONE);
        lives(x, 3, NONE, NONE);
        lives(x, 4, NONE, NONE);
    }

    private static void notThere() {
        due.part("promise 14: NONE if it isn't there");
        ArenaNetwork x = chain(1, 1);
        x.prepare();
        int[] wrong = {-1, 2, 20, LEAST_INT, GREATEST_INT};
        for (int tensor : wrong) {
            lives(x, tensor, NONE, NONE);
        }
        lives(x, 0, -1, 0);
        lives(x, 1, 0, 0);
    }

    private static void notPrepared() {
        due.part("promise 14: NONE if the network isn't PREPARED");
        ArenaNetwork x = chain(1, 1);
        lives(x, 0, NONE, NONE);
        lives(x, 1, NONE, NONE);
        x.prepare();
        x.reopen();
        lives(x, 0, NONE, NONE);
        lives(x, 1, NONE, NONE);
    }

    private static void livesOfTheNetworkAsItIsNow() {
        due.part("promise 14: the network prepared last");
        ArenaNetwork x = chain(1, 1);
        x.tensor(MADE, 1, 0);
        x.keep(0, true);
        x.prepare();
        lives(x, 0, -1, 1);
        lives(x, 1, 0, 0);
        lives(x, 2, NONE, NONE);
        x.reopen();
        x.keep(0, false);
        x.operator(TURN, 1, 1, 2, 0);
        x.prepare();
        lives(x, 0, -1, 0);
        lives(x, 1, 0, 1);
        lives(x, 2, 1, 1);
    }
}
