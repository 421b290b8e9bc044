import java.util.ArrayList;
import java.util.List;
import java.util.function.Supplier;

/** Every call tests its arguments first, and a refused call (an answer below 0) changes nothing. */
public final class RefusedTest extends Terms {
    private interface Call {
        int on(ArenaNetwork x);
    }

    private record Told(String name, int answer, Call call) { }

    private record State(String name, Supplier<ArenaNetwork> maker) { }

    private static final State NEW = new State("new", ArenaNetwork::new);
    private static final State MAKING = new State("in the making", RefusedTest::making);
    private static final State FAULTY = new State("with a fault", () -> withAFault(making()));
    private static final State KEPT = new State("kept without operator", RefusedTest::kept);
    private static final State FULL_UP = new State("full", RefusedTest::full);
    private static final State PREPARED = new State("prepared", () -> prepared(making()));
    private static final State FULL_PREPARED = new State("full and prepared", () -> prepared(full()));
    private static final State STARTED = new State("started", () -> started(making()));
    private static final State RUNNING = new State("in a run", RefusedTest::running);
    private static final State ENDED = new State("in a run that is done", RefusedTest::ended);
    private static final State REOPENED = new State("reopened", RefusedTest::reopened);

    private static final State REOPENED_FAULTY = new State("reopened, with a fault", () -> withAFault(reopened()));

    private static final State[] ALL = {
        NEW, MAKING, FAULTY, KEPT, FULL_UP, PREPARED, FULL_PREPARED, STARTED, RUNNING, ENDED, REOPENED,
        REOPENED_FAULTY,
    };
    private static final State[] OPEN = {NEW, MAKING, FAULTY, KEPT, FULL_UP, REOPENED, REOPENED_FAULTY};
    private static final State[] SHUT = {PREPARED, FULL_PREPARED, STARTED, RUNNING, ENDED};

    private static final Told[] WRONG_ARGUMENTS = {
        new Told("tensor, kind -1", REFUSED, x -> x.tensor(-1, 1, 0)),
        new Told("tensor, kind 3", REFUSED, x -> x.tensor(3, 1, 0)),
        new Told("tensor, length 0", REFUSED, x -> x.tensor(INPUT, 0, 0)),
        new Told("tensor, length 17", REFUSED, x -> x.tensor(MADE, 17, 0)),
        new Told("tensor, length 65", REFUSED, x -> x.tensor(CONSTANT, 65, 0)),
        new Told("tensor, zero -129", REFUSED, x -> x.tensor(INPUT, 1, -129)),
        new Told("tensor, zero 128", REFUSED, x -> x.tensor(INPUT, 1, 128)),
        new Told("set, tensor -1", REFUSED, x -> x.set(-1, 0, 9)),
        new Told("set, tensor 20", REFUSED, x -> x.set(20, 0, 9)),
        new Told("set, a made tensor", REFUSED, x -> x.set(2, 0, 9)),
        new Told("set, index -1 of an input", REFUSED, x -> x.set(0, -1, 9)),
        new Told("set, index 3 of an input", REFUSED, x -> x.set(0, 3, 9)),
        new Told("set, index -1 of a constant", REFUSED, x -> x.set(1, -1, 9)),
        new Told("set, index 6 of a constant", REFUSED, x -> x.set(1, 6, 9)),
        new Told("set, value -129 to an input", REFUSED, x -> x.set(0, 0, -129)),
        new Told("set, value 128 to an input", REFUSED, x -> x.set(0, 0, 128)),
        new Told("set, value -129 to a constant", REFUSED, x -> x.set(1, 0, -129)),
        new Told("set, value 128 to a constant", REFUSED, x -> x.set(1, 0, 128)),
        new Told("scale, i -1", REFUSED, x -> x.scale(-1, 5, 5)),
        new Told("scale, i 8", REFUSED, x -> x.scale(8, 5, 5)),
        new Told("scale, multiplier -1", REFUSED, x -> x.scale(1, -1, 5)),
        new Told("scale, shift -1", REFUSED, x -> x.scale(1, 5, -1)),
        new Told("scale, shift 31", REFUSED, x -> x.scale(1, 5, 31)),
        new Told("operator, kind -1", REFUSED, x -> x.operator(-1, 0, 0, 2, 0)),
        new Told("operator, kind 8", REFUSED, x -> x.operator(8, 0, 0, 2, 0)),
        new Told("operator, a -1", REFUSED, x -> x.operator(ADD, -1, 0, 2, 0)),
        new Told("operator, a 20", REFUSED, x -> x.operator(ADD, 20, 0, 2, 0)),
        new Told("operator, b -1", REFUSED, x -> x.operator(ADD, 0, -1, 2, 0)),
        new Told("operator, b 20", REFUSED, x -> x.operator(ADD, 0, 20, 2, 0)),
        new Told("operator, r -1", REFUSED, x -> x.operator(ADD, 0, 0, -1, 0)),
        new Told("operator, r 20", REFUSED, x -> x.operator(ADD, 0, 0, 20, 0)),
        new Told("operator, p -1", REFUSED, x -> x.operator(ADD, 0, 0, 2, -1)),
        new Told("operator, p 8", REFUSED, x -> x.operator(ADD, 0, 0, 2, 8)),
        new Told("keep, tensor -1", REFUSED, x -> x.keep(-1, false)),
        new Told("keep, tensor 20", REFUSED, x -> x.keep(20, true)),
        new Told("keep, a constant", REFUSED, x -> x.keep(1, true)),
        new Told("cell, tensor -1", NONE, x -> x.cell(-1, 0)),
        new Told("cell, tensor 20", NONE, x -> x.cell(20, 0)),
        new Told("cell, index -1", NONE, x -> x.cell(1, -1)),
        new Told("cell, index 6", NONE, x -> x.cell(1, 6)),
        new Told("offset, tensor -1", REFUSED, x -> x.offset(-1)),
        new Told("offset, tensor 20", REFUSED, x -> x.offset(20)),
        new Told("life, tensor -1", NONE, x -> x.life(-1, false)),
        new Told("life, tensor 20", NONE, x -> x.life(20, true)),
        new Told("placed, nth -1", REFUSED, x -> x.placed(-1)),
        new Told("placed, nth 20", REFUSED, x -> x.placed(20)),
        new Told("count, what -1", REFUSED, x -> x.count(-1)),
        new Told("count, what 6", REFUSED, x -> x.count(6)),
    };

    private static final Told[] WHEN_IN_THE_MAKING = {
        new Told("reopen", CLOSED, ArenaNetwork::reopen),
        new Told("start", CLOSED, ArenaNetwork::start),
        new Told("step", CLOSED, ArenaNetwork::step),
        new Told("finish", CLOSED, ArenaNetwork::finish),
        new Told("cell", NONE, x -> x.cell(0, 0)),
        new Told("offset", REFUSED, x -> x.offset(0)),
        new Told("life", NONE, x -> x.life(0, false)),
        new Told("placed", REFUSED, x -> x.placed(0)),
    };

    private static final Told[] WHEN_PREPARED = {
        new Told("tensor", CLOSED, x -> x.tensor(INPUT, 1, 0)),
        new Told("set a constant", CLOSED, x -> x.set(1, 0, 9)),
        new Told("scale", CLOSED, x -> x.scale(1, 5, 5)),
        new Told("operator", CLOSED, x -> x.operator(TURN, 3, 3, 5, 0)),
        new Told("keep", CLOSED, x -> x.keep(0, true)),
        new Told("keep, off", CLOSED, x -> x.keep(3, false)),
        new Told("prepare", CLOSED, ArenaNetwork::prepare),
        new Told("life", -1, x -> x.life(0, false)),
    };

    private static final Told[] WITHOUT_A_RUN = {
        new Told("step", CLOSED, ArenaNetwork::step),
        new Told("finish", CLOSED, ArenaNetwork::finish),
        new Told("cell", NONE, x -> x.cell(0, 0)),
    };

    private static final Told[] WHEN_FULL = {
        new Told("tensor", FULL, x -> x.tensor(INPUT, 1, 0)),
        new Told("operator", FULL, x -> x.operator(TURN, 3, 3, 5, 0)),
    };

    /** Calls that do change something: what is seen of the network must tell. */
    private static final Told[] CHANGES = {
        new Told("tensor", 6, x -> x.tensor(INPUT, 1, 0)),
        new Told("set an input", DONE, x -> x.set(0, 2, 9)),
        new Told("set a constant", DONE, x -> x.set(1, 5, 9)),
        new Told("scale, multiplier", DONE, x -> x.scale(7, 5, 0)),
        new Told("scale, shift", DONE, x -> x.scale(7, 1073741824, 1)),
        new Told("operator", 3, x -> x.operator(TURN, 3, 3, 5, 0)),
        new Told("keep", DONE, x -> x.keep(0, true)),
        new Told("keep, off", DONE, x -> x.keep(3, false)),
        new Told("prepare", 10, ArenaNetwork::prepare),
    };

    public static void main(String[] args) {
        refusedIn(ALL, WRONG_ARGUMENTS);
        refusedIn(OPEN, WHEN_IN_THE_MAKING);
        refusedIn(SHUT, WHEN_PREPARED);
        refusedIn(new State[] {PREPARED, FULL_PREPARED}, WITHOUT_A_RUN);
        refusedIn(new State[] {FULL_UP}, WHEN_FULL);
        refusedIn(new State[] {FAULTY, REOPENED_FAULTY}, new Told("prepare", -42, ArenaNetwork::prepare));
        refusedIn(new State[] {KEPT}, new Told("prepare", -1000, ArenaNetwork::prepare));
        refusedIn(new State[] {ENDED}, new Told("step", CLOSED, ArenaNetwork::step));
        changesAreSeen();
        due.end();
    }

    private static ArenaNetwork making() {
        ArenaNetwork x = network(input(3, 0), constant(6, 0), made(2, 1), made(2, 1), made(4, 1), made(2, 1));
        setCells(x, 0, 1, 2, 3);
        setCells(x, 1, 4, -5, 6, 7, 8, -9);
        x.scale(1, WHOLE, 1);
        x.operator(DENSE, 0, 1, 2, 1);
        x.operator(TURN, 2, 2, 3, 0);
        x.operator(JOIN, 2, 3, 4, 0);
        x.keep(3, true);
        return x;
    }

    private static ArenaNetwork withAFault(ArenaNetwork x) {
        x.operator(TURN, 5, 5, 5, 0);
        return x;
    }

    private static ArenaNetwork kept() {
        ArenaNetwork x = making();
        x.keep(5, true);
        return x;
    }

    private static ArenaNetwork full() {
        ArenaNetwork x = making();
        for (int t = 6; t < 20; t++) {
            x.tensor(MADE, 2, 1);
        }
        for (int i = 3; i < 14; i++) {
            x.operator(TURN, 3, 3, i + 3, 0);
        }
        return x;
    }

    private static ArenaNetwork prepared(ArenaNetwork x) {
        x.prepare();
        return x;
    }

    private static ArenaNetwork started(ArenaNetwork x) {
        x.prepare();
        x.start();
        return x;
    }

    /** An input was set behind the start, so that what start took differs from what it would take. */
    private static ArenaNetwork running() {
        ArenaNetwork x = started(making());
        x.step();
        x.set(0, 1, 77);
        return x;
    }

    private static ArenaNetwork ended() {
        ArenaNetwork x = running();
        x.finish();
        return x;
    }

    private static ArenaNetwork reopened() {
        ArenaNetwork x = running();
        x.reopen();
        return x;
    }

    /** Each call is made on one of two like objects, which must still be alike afterwards. */
    private static void refusedIn(State[] states, Told... calls) {
        for (State state : states) {
            due.part(state.name);
            for (Told each : calls) {
                ArenaNetwork x = state.maker.get();
                due.is(each.name, each.call.on(x), each.answer);
                boolean same = later(x).equals(later(state.maker.get()));
                due.is(each.name + " changes nothing", same ? 1 : 0, 1);
            }
        }
    }

    private static void changesAreSeen() {
        due.part("what is seen of a network");
        for (Told each : CHANGES) {
            ArenaNetwork x = making();
            due.is(each.name, each.call.on(x), each.answer);
            boolean same = later(x).equals(later(making()));
            due.is(each.name + " is told apart", same ? 1 : 0, 0);
        }
    }

    /** What can be seen of a network now, in the rest of its run, in a new one, and in the making. */
    private static List<Integer> later(ArenaNetwork x) {
        List<Integer> answers = new ArrayList<>();
        look(x, answers);
        answers.add(x.step());
        look(x, answers);
        answers.add(x.prepare());
        answers.add(x.start());
        answers.add(x.finish());
        look(x, answers);
        answers.add(x.reopen());
        answers.add(x.tensor(INPUT, 4, 0));
        answers.add(x.operator(TURN, 0, 0, 5, 0));
        look(x, answers);
        return answers;
    }

    private static void look(ArenaNetwork x, List<Integer> answers) {
        for (int what = 0; what <= 5; what++) {
            answers.add(x.count(what));
        }
        for (int t = 0; t < 6; t++) {
            answers.add(x.offset(t));
            answers.add(x.life(t, false));
            answers.add(x.life(t, true));
            answers.add(x.placed(t));
            for (int i = 0; i < 6; i++) {
                answers.add(x.cell(t, i));
            }
        }
        for (int i = 0; i < 8; i++) {
            answers.add(x.scaled(i, 1000003));
        }
    }
}
