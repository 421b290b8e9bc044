/** Promise 1, and what the document says of an object as a whole. */
public final class ObjectTest extends Terms {
    public static void main(String[] args) {
        nothingIsThere();
        inTheMaking();
        objectsAreApart();
        the512thCallIsAnswered();
        preparedAndReopenedToThe512thCall();
        due.end();
    }

    private static void nothingIsThere() {
        due.part("promise 1: nothing is there");
        ArenaNetwork x = new ArenaNetwork();
        due.is("tensors", x.count(0), 0);
        due.is("operators", x.count(1), 0);
        due.is("set", x.set(0, 0, 0), REFUSED);
        due.is("operator", x.operator(ADD, 0, 0, 0, 0), REFUSED);
        due.is("keep", x.keep(0, true), REFUSED);
        due.is("cell", x.cell(0, 0), NONE);
        due.is("offset", x.offset(0), REFUSED);
        due.is("life's beginning", x.life(0, false), NONE);
        due.is("life's end", x.life(0, true), NONE);
        due.is("placed", x.placed(0), REFUSED);
    }

    private static void inTheMaking() {
        due.part("promise 1: in the making");
        ArenaNetwork x = new ArenaNetwork();
        due.is("not prepared", x.count(2), 0);
        due.is("no run", x.count(3), -1);
        due.is("no arena", x.count(4), 0);
        due.is("no lengths", x.count(5), 0);
        due.is("reopen", x.reopen(), CLOSED);
        due.is("start", x.start(), CLOSED);
        due.is("step", x.step(), CLOSED);
        due.is("finish", x.finish(), CLOSED);
        due.is("scale", x.scale(0, 0, 0), DONE);
        due.is("tensor", x.tensor(INPUT, 1, 0), 0);
        due.is("operator", x.operator(ADD, 0, 0, 0, 0), 0);
        due.is("keep", x.keep(0, false), DONE);
        due.is("prepare looks at it", x.prepare(), -11);
    }

    private static void objectsAreApart() {
        due.part("a new object, when another is prepared and runs");
        ArenaNetwork other = chain(1, 4);
        other.tensor(CONSTANT, 1, 0);
        other.set(2, 0, 9);
        other.scale(0, 0, 0);
        other.prepare();
        other.start();
        ArenaNetwork x = new ArenaNetwork();
        due.is("tensors", x.count(0), 0);
        due.is("scaled", x.scaled(0, 2), 1);
        due.is("a constant", x.tensor(CONSTANT, 1, 0), 0);
        due.is("its cell", x.cell(0, 0), 0);
        due.is("prepare", x.prepare(), 0);
        due.is("step without a run", x.step(), CLOSED);
        due.is("the other's step", other.step(), 0);
        due.is("the other's constant", other.cell(2, 0), 9);
    }

    private static void the512thCallIsAnswered() {
        due.part("an object is used for at most 512 calls");
        ArenaNetwork x = chain(14, 1);
        x.keep(14, true);
        x.prepare();
        int calls = 1 + 2 * 14 + 2;
        while (calls < 511) {
            int value = calls % 100 - 50;
            due.is("set", x.set(0, 0, value), DONE);
            due.is("start", x.start(), 14);
            due.is("finish", x.finish(), 14);
            due.is("cell", x.cell(14, 0), value);
            calls += 4;
        }
        due.is("calls before the last", calls, 511);
        due.is("the 512th", x.count(3), 14);
    }

    private static void preparedAndReopenedToThe512thCall() {
        due.part("prepared and reopened again and again");
        ArenaNetwork x = network(input(16, 0), input(3, 0));
        for (int calls = 2; calls < 512; calls += 2) {
            due.is("prepare", x.prepare(), 19);
            due.is("reopen", x.reopen(), DONE);
        }
    }
}
