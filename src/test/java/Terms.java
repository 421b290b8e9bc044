/** The document's terms by name, for the tests to inherit. */
abstract class Terms {
    static final int CONSTANT = 0;
    static final int INPUT = 1;
    static final int MADE = 2;

    static final int DENSE = 0;
    static final int ADD = 1;
    static final int MUL = 2;
    static final int GREATEST = 3;
    static final int MEAN = 4;
    static final int LOOK = 5;
    static final int JOIN = 6;
    static final int TURN = 7;

    static final int DONE = ArenaNetwork.DONE;
    static final int REFUSED = ArenaNetwork.REFUSED;
    static final int FULL = ArenaNetwork.FULL;
    static final int CLOSED = ArenaNetwork.CLOSED;
    static final int NONE = ArenaNetwork.NONE;

    static final Due due = new Due();
}
