/** The example of README.md, call by call, with the answers that it tells. */
public final class ReadmeTest {
    private static final Due due = new Due();

    public static void main(String[] args) {
        due.part("the example of README.md");
        ArenaNetwork network = new ArenaNetwork();
        int input = network.tensor(1, 3, 0);
        int weights = network.tensor(0, 6, 0);
        int result = network.tensor(2, 2, 1);
        due.is("set weights", network.set(weights, 0, 1), ArenaNetwork.DONE);
        due.is("scale", network.scale(2, 1073741824, 0), ArenaNetwork.DONE);
        due.is("operator", network.operator(0, input, weights, result, 2), 0);
        due.is("keep", network.keep(result, true), ArenaNetwork.DONE);
        due.is("prepare", network.prepare(), 6);
        due.is("set input", network.set(input, 0, 10), ArenaNetwork.DONE);
        due.is("start", network.start(), 1);
        due.is("finish", network.finish(), 1);
        due.is("first cell", network.cell(result, 0), 6);
        due.end();
    }
}
