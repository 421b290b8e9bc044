/** The terms TENSORS, KIND, LENGTH, ZERO and CELLS, and promises 2 and 3: tensor and set. */
public final class TensorTest extends Terms {
    public static void main(String[] args) {
        numberedFrom0();
        atMost20();
        kinds();
        lengthsOfConstants();
        lengthsOfOthers();
        zeros();
        zerosAreHeld();
        cellsAre0AtFirst();
        tensorWhenPrepared();
        tensorTestsItsArgumentsFirst();
        setAConstantInTheMaking();
        setAConstantWhenPrepared();
        setAnInputAtAnyTime();
        setIsWhatStartTakes();
        setAMadeOne();
        setATensorThatIsNotThere();
        setBelowLength();
        setAValue();
        due.end();
    }

    private static void numberedFrom0() {
        due.part("tensors are numbered 0, 1, ..");
        ArenaNetwork x = new ArenaNetwork();
        due.is("the first", x.tensor(MADE, 1, 0), 0);
        due.is("a refused one", x.tensor(MADE, 0, 0), REFUSED);
        due.is("the second", x.tensor(CONSTANT, 64, 0), 1);
        x.prepare();
        due.is("a closed one", x.tensor(INPUT, 1, 0), CLOSED);
        x.reopen();
        due.is("the third", x.tensor(INPUT, 16, 0), 2);
    }

    private static void atMost20() {
        due.part("promise 2: 20 are there: FULL");
        for (int kind = CONSTANT; kind <= MADE; kind++) {
            ArenaNetwork x = new ArenaNetwork();
            for (int i = 0; i < 20; i++) {
                due.is("tensor", x.tensor(kind, 1, 0), i);
            }
            due.is("a 21st", x.tensor(kind, 1, 0), FULL);
            due.is("a 21st of another kind", x.tensor((kind + 1) % 3, 1, 0), FULL);
            due.is("still 20", x.count(0), 20);
        }
    }

    private static void kinds() {
        due.part("promise 2: kind 0 .. 2");
        ArenaNetwork x = new ArenaNetwork();
        int[] wrong = {-1, 3, LEAST_INT, GREATEST_INT};
        for (int kind : wrong) {
            due.is("kind " + kind, x.tensor(kind, 1, 0), REFUSED);
        }
        due.is("kind 0", x.tensor(0, 1, 0), 0);
        due.is("kind 1", x.tensor(1, 1, 0), 1);
        due.is("kind 2", x.tensor(2, 1, 0), 2);
        due.is("0 is a constant", x.cell(0, 0), 0);
        due.is("1 is an input", x.set(1, 0, 0), DONE);
        due.is("1 is no constant", x.cell(1, 0), NONE);
        due.is("2 is a made one", x.set(2, 0, 0), REFUSED);
    }

    private static void lengthsOfConstants() {
        due.part("promise 2: length 1 .. 64 for a constant");
        ArenaNetwork x = new ArenaNetwork();
        int[] wrong = {0, 65, -1, LEAST_INT, GREATEST_INT};
        for (int length : wrong) {
            due.is("length " + length, x.tensor(CONSTANT, length, 0), REFUSED);
        }
        due.is("length 1", x.tensor(CONSTANT, 1, 0), 0);
        due.is("length 17", x.tensor(CONSTANT, 17, 0), 1);
        due.is("length 64", x.tensor(CONSTANT, 64, 0), 2);
        due.is("cell 63 of 64", x.cell(2, 63), 0);
        due.is("cell 64 of 64", x.cell(2, 64), NONE);
    }

    private static void lengthsOfOthers() {
        due.part("promise 2: length 1 .. 16 for others");
        for (int kind = INPUT; kind <= MADE; kind++) {
            ArenaNetwork x = new ArenaNetwork();
            int[] wrong = {0, 17, 64, -1, LEAST_INT, GREATEST_INT};
            for (int length : wrong) {
                due.is("kind " + kind + ", length " + length, x.tensor(kind, length, 0), REFUSED);
            }
            due.is("kind " + kind + ", length 1", x.tensor(kind, 1, 0), 0);
            due.is("kind " + kind + ", length 16", x.tensor(kind, 16, 0), 1);
        }
    }

    private static void zeros() {
        due.part("promise 2: zero -128 .. 127");
        for (int kind = CONSTANT; kind <= MADE; kind++) {
            ArenaNetwork x = new ArenaNetwork();
            int[] wrong = {-129, 128, LEAST_INT, GREATEST_INT};
            for (int zero : wrong) {
                due.is("kind " + kind + ", zero " + zero, x.tensor(kind, 1, zero), REFUSED);
            }
            due.is("kind " + kind + ", zero -128", x.tensor(kind, 1, -128), 0);
            due.is("kind " + kind + ", zero 127", x.tensor(kind, 1, 127), 1);
        }
    }

    private static void zerosAreHeld() {
        due.part("a ZERO of -128 or 127 is held as it is");
        ArenaNetwork x = network(input(1, -128), constant(1, 127), made(1, 0), made(1, -128), made(1, 127));
        x.scale(0, WHOLE, 1);
        x.operator(ADD, 0, 0, 2, 0);
        x.operator(ADD, 1, 1, 3, 0);
        x.operator(ADD, 1, 1, 4, 0);
        x.set(0, 0, -28);
        x.set(1, 0, 27);
        x.prepare();
        x.start();
        x.step();
        due.is("0 + (-28 + 128)", x.cell(2, 0), 100);
        x.step();
        due.is("-128 + (27 - 127), clamped", x.cell(3, 0), -128);
        x.step();
        due.is("127 + (27 - 127)", x.cell(4, 0), 27);
    }

    private static void cellsAre0AtFirst() {
        due.part("constants' and inputs' cells are 0 at first, whatever their ZERO");
        ArenaNetwork x = network(constant(64, 9), input(16, -9));
        cellsAre("in the making", x, 0, filled(64, 0));
        x.prepare();
        x.start();
        cellsAre("in a run", x, 0, filled(64, 0));
        cellsAre("in a run", x, 1, filled(16, 0));
    }

    private static void tensorWhenPrepared() {
        due.part("promise 2: the network is PREPARED: CLOSED");
        ArenaNetwork x = new ArenaNetwork();
        x.prepare();
        for (int kind = CONSTANT; kind <= MADE; kind++) {
            due.is("kind " + kind, x.tensor(kind, 1, 0), CLOSED);
        }
        x.start();
        due.is("in a run", x.tensor(INPUT, 1, 0), CLOSED);
        x.reopen();
        due.is("reopened", x.tensor(INPUT, 1, 0), 0);
    }

    private static void tensorTestsItsArgumentsFirst() {
        due.part("promise 2: REFUSED before CLOSED before FULL");
        ArenaNetwork x = new ArenaNetwork();
        for (int i = 0; i < 20; i++) {
            x.tensor(INPUT, 1, 0);
        }
        tensorIsRefused(x, "full");
        x.prepare();
        tensorIsRefused(x, "prepared and full");
        due.is("prepared and full", x.tensor(INPUT, 1, 0), CLOSED);
        x.reopen();
        due.is("full again", x.tensor(INPUT, 1, 0), FULL);
    }

    private static void tensorIsRefused(ArenaNetwork x, String when) {
        due.is(when + ", kind", x.tensor(3, 1, 0), REFUSED);
        due.is(when + ", length", x.tensor(INPUT, 17, 0), REFUSED);
        due.is(when + ", zero", x.tensor(INPUT, 1, 128), REFUSED);
    }

    private static void setAConstantInTheMaking() {
        due.part("promise 3: sets a cell of a constant");
        ArenaNetwork x = network(constant(3, 0), constant(3, 0));
        due.is("set", x.set(0, 1, 5), DONE);
        cellsAre("that cell alone", x, 0, 0, 5, 0);
        cellsAre("not the other tensor", x, 1, 0, 0, 0);
        due.is("set again", x.set(0, 1, -6), DONE);
        cellsAre("the last value", x, 0, 0, -6, 0);
    }

    private static void setAConstantWhenPrepared() {
        due.part("promise 3: a constant only in the making, else CLOSED");
        ArenaNetwork x = network(constant(3, 0));
        x.set(0, 0, 4);
        x.prepare();
        due.is("prepared", x.set(0, 0, 5), CLOSED);
        due.is("prepared, the same value", x.set(0, 0, 4), CLOSED);
        due.is("prepared, a wrong index", x.set(0, 3, 5), REFUSED);
        due.is("prepared, a wrong value", x.set(0, 0, 128), REFUSED);
        x.start();
        due.is("in a run", x.set(0, 0, 5), CLOSED);
        due.is("its cell", x.cell(0, 0), 4);
        x.reopen();
        due.is("reopened", x.set(0, 0, 5), DONE);
        due.is("its cell", x.cell(0, 0), 5);
    }

    private static void setAnInputAtAnyTime() {
        due.part("promise 3: an input at any time");
        ArenaNetwork x = chain(1, 2);
        due.is("in the making", x.set(0, 0, 1), DONE);
        x.prepare();
        due.is("prepared", x.set(0, 0, 2), DONE);
        x.start();
        due.is("in a run", x.set(0, 0, 3), DONE);
        x.step();
        due.is("in a run that is done", x.set(0, 0, 4), DONE);
        x.reopen();
        due.is("reopened", x.set(0, 1, 5), DONE);
        x.prepare();
        x.start();
        cellsAre("the last values", x, 0, 4, 5);
    }

    private static void setIsWhatStartTakes() {
        due.part("promise 3: it is what start takes");
        ArenaNetwork x = chain(1, 2);
        x.prepare();
        x.start();
        x.set(0, 0, 7);
        cellsAre("not what the run has", x, 0, 0, 0);
        x.step();
        cellsAre("not what an operator takes", x, 1, 0, 0);
        x.start();
        cellsAre("what the next run has", x, 0, 7, 0);
        x.step();
        cellsAre("what its operator takes", x, 1, 0, 7);
    }

    private static void setAMadeOne() {
        due.part("promise 3: not a made one");
        ArenaNetwork x = chain(1, 2);
        x.tensor(MADE, 2, 0);
        due.is("a result", x.set(1, 0, 0), REFUSED);
        due.is("one without operator", x.set(2, 0, 0), REFUSED);
        x.prepare();
        x.start();
        x.step();
        due.is("a result in a run", x.set(1, 0, 9), REFUSED);
        due.is("its cell", x.cell(1, 0), 0);
    }

    private static void setATensorThatIsNotThere() {
        due.part("promise 3: tensor there");
        ArenaNetwork x = network(constant(3, 0), input(3, 0));
        int[] wrong = {-1, 2, 20, LEAST_INT, GREATEST_INT};
        for (int tensor : wrong) {
            due.is("tensor " + tensor, x.set(tensor, 0, 0), REFUSED);
        }
        due.is("the first", x.set(0, 0, 0), DONE);
        due.is("the last", x.set(1, 0, 0), DONE);
    }

    private static void setBelowLength() {
        due.part("promise 3: index below its LENGTH");
        int[][] tensors = {constant(1, 0), constant(64, 0), input(1, 0), input(16, 0)};
        ArenaNetwork x = network(tensors);
        for (int t = 0; t < tensors.length; t++) {
            int length = tensors[t][1];
            int[] wrong = {-1, length, LEAST_INT, GREATEST_INT};
            for (int index : wrong) {
                due.is("tensor " + t + ", index " + index, x.set(t, index, 1), REFUSED);
            }
            due.is("tensor " + t + ", index 0", x.set(t, 0, 1), DONE);
            due.is("tensor " + t + ", the last index", x.set(t, length - 1, 1), DONE);
        }
    }

    private static void setAValue() {
        due.part("promise 3: value -128 .. 127");
        ArenaNetwork x = network(constant(2, 0), input(2, 0));
        for (int t = 0; t < 2; t++) {
            int[] wrong = {-129, 128, LEAST_INT, GREATEST_INT};
            due.is("value -128", x.set(t, 0, -128), DONE);
            due.is("value 127", x.set(t, 1, 127), DONE);
            for (int value : wrong) {
                due.is("value " + value, x.set(t, 0, value), REFUSED);
            }
        }
        x.prepare();
        x.start();
        cellsAre("the constant", x, 0, -128, 127);
        cellsAre("the input", x, 1, -128, 127);
    }
}
