/** The document's terms by name, and networks told in short, for the tests to inherit. */
abstract class Terms {
    static final int CONSTANT = 0;
    static final int INPUT = 1;
    static final int MADE = 2;

    static final int DENSE = 0;
    static final int ADD = 1;
    static final int MUL = 2;
    static final int GREATEST = 3;
    static final int MEAN = 4;
    static final int LOOK = 5;
    static final int JOIN = 6;
    static final int TURN = 7;

    static final int DONE = ArenaNetwork.DONE;
    static final int REFUSED = ArenaNetwork.REFUSED;
    static final int FULL = ArenaNetwork.FULL;
    static final int CLOSED = ArenaNetwork.CLOSED;
    static final int NONE = ArenaNetwork.NONE;

    static final int LEAST_INT = Integer.MIN_VALUE;
    static final int GREATEST_INT = Integer.MAX_VALUE;

    /** The multiplier with which SCALED leaves every number of its range as it is. */
    static final int WHOLE = 2147483647;
    static final int HALF = 1073741824;

    static final Due due = new Due();

    static ArenaNetwork network(int[]... tensors) {
        ArenaNetwork x = new ArenaNetwork();
        for (int[] t : tensors) {
            x.tensor(t[0], t[1], t[2]);
        }
        return x;
    }

    static int[] constant(int length, int zero) {
        return new int[] {CONSTANT, length, zero};
    }

    static int[] input(int length, int zero) {
        return new int[] {INPUT, length, zero};
    }

    static int[] made(int length, int zero) {
        return new int[] {MADE, length, zero};
    }

    /** Input 0 turned into 1, that into 2, and so on; operator i makes tensor i + 1. */
    static ArenaNetwork chain(int operators, int length) {
        ArenaNetwork x = network(input(length, 0));
        for (int i = 0; i < operators; i++) {
            x.tensor(MADE, length, 0);
            x.operator(TURN, i, i, i + 1, 0);
        }
        return x;
    }

    static void setCells(ArenaNetwork x, int tensor, int... values) {
        for (int i = 0; i < values.length; i++) {
            x.set(tensor, i, values[i]);
        }
    }

    static void cellsAre(String what, ArenaNetwork x, int tensor, int... wanted) {
        for (int i = 0; i < wanted.length; i++) {
            due.is(what + ", cell(" + tensor + ", " + i + ")", x.cell(tensor, i), wanted[i]);
        }
    }

    static int[] filled(int length, int value) {
        int[] cells = new int[length];
        java.util.Arrays.fill(cells, value);
        return cells;
    }
}
