/** Promises 7, 8 and 13 to 15: prepare with its faults, lives and places, and reopen. */
public final class PrepareTest extends Terms {
    /** An operator's two sources are one tensor. */
    private static final int[] SAME = null;

    public static void main(String[] args) {
        promise7BadResult();
        promise7BadSource();
        promise7Order();
        promise7FitsOfScaledKinds();
        promise7FitsOfGroups();
        promise7FitsOfMoves();
        promise7KeptButNeverMade();
        promise7ChangesNothingWhenRefused();
        promise8Reopen();
        promise13Offset();
        promise13OffsetsAreMultiplesOfFour();
        promise13GapsAreUsed();
        promise13TouchingLivesMeet();
        promise14Life();
        promise15Placed();
        withoutAnswersInTheMaking();
        due.end();
    }

    private static ArenaNetwork network(int[]... tensors) {
        ArenaNetwork x = new ArenaNetwork();
        for (int[] t : tensors) {
            x.tensor(t[0], t[1], t[2]);
        }
        return x;
    }

    private static int[] constant(int length, int zero) {
        return new int[] {CONSTANT, length, zero};
    }

    private static int[] input(int length, int zero) {
        return new int[] {INPUT, length, zero};
    }

    private static int[] made(int length, int zero) {
        return new int[] {MADE, length, zero};
    }

    private static void promise7BadResult() {
        due.part("promise 7, fault 1");
        ArenaNetwork x = network(input(4, 0), constant(4, 0), made(4, 0));
        x.operator(TURN, 0, 0, 2, 0);
        x.operator(TURN, 0, 0, 2, 0);
        due.is("the result of an earlier one", x.prepare(), -21);
        x = network(input(4, 0), constant(4, 0));
        x.operator(TURN, 0, 0, 1, 0);
        due.is("a constant", x.prepare(), -11);
        x = network(input(4, 0), input(4, 0));
        x.operator(TURN, 0, 0, 1, 0);
        due.is("an input", x.prepare(), -11);
    }

    private static void promise7BadSource() {
        due.part("promise 7, fault 2");
        due.is("a is unmade", ofSources(ADD, 3, 0), -12);
        due.is("b is unmade", ofSources(ADD, 0, 3), -12);
        due.is("a is its own result", ofSources(ADD, 2, 0), -12);
        due.is("b is its own result", ofSources(ADD, 0, 2), -12);
        due.is("b is unmade where it has no use and must be a", ofSources(TURN, 0, 3), -12);
        due.is("a is a constant", ofSources(ADD, 1, 0), 8);
        due.is("b is a constant", ofSources(ADD, 0, 1), 8);
        ArenaNetwork x = network(input(4, 0), made(4, 0), made(4, 0));
        x.operator(TURN, 1, 1, 2, 0);
        x.operator(TURN, 0, 0, 1, 0);
        due.is("made by a later one", x.prepare(), -12);
        x = network(input(4, 0), made(4, 0), made(4, 0));
        x.operator(TURN, 0, 0, 1, 0);
        x.operator(TURN, 1, 1, 2, 0);
        due.is("made by an earlier one", x.prepare(), 8);
    }

    /** Prepare's answer for one operator; 0 is an input, 1 a constant, 2 its result, 3 unmade. */
    private static int ofSources(int kind, int a, int b) {
        ArenaNetwork x = network(input(4, 0), constant(4, 0), made(4, 0), made(4, 0));
        x.operator(kind, a, b, 2, 0);
        return x.prepare();
    }

    private static void promise7Order() {
        due.part("promise 7, order");
        ArenaNetwork x = network(input(4, 0), made(3, 0));
        x.operator(ADD, 1, 0, 0, 0);
        due.is("1 before 2 and 3", x.prepare(), -11);
        x = network(input(4, 0), made(3, 0));
        x.operator(ADD, 1, 0, 1, 0);
        due.is("2 before 3", x.prepare(), -12);
        x = network(input(4, 0), made(3, 0));
        x.operator(ADD, 0, 0, 1, 0);
        x.operator(ADD, 0, 0, 0, 0);
        x.keep(1, true);
        due.is("the earlier operator first", x.prepare(), -13);
        x = network(input(1, 0));
        for (int i = 0; i < 13; i++) {
            x.tensor(MADE, 1, 0);
            x.operator(TURN, i, i, i + 1, 0);
        }
        x.operator(TURN, 0, 0, 1, 0);
        due.is("the last operator", x.prepare(), -141);
    }

    private static void fits(String what, int kind, int[] a, int[] b, int[] r, int p) {
        due.is(what + " fits", faultOf(kind, a, b, r, p), 0);
    }

    private static void bad(String what, int kind, int[] a, int[] b, int[] r, int p) {
        due.is(what + " doesn't fit", faultOf(kind, a, b, r, p), -13);
    }

    private static int faultOf(int kind, int[] a, int[] b, int[] r, int p) {
        ArenaNetwork x = network(a, r);
        int second = b == SAME ? 0 : x.tensor(b[0], b[1], b[2]);
        x.operator(kind, 0, second, 1, p);
        return Math.min(0, x.prepare());
    }

    private static void promise7FitsOfScaledKinds() {
        due.part("promise 7, fault 3 of DENSE, ADD and MUL");
        fits("DENSE", DENSE, input(3, 1), constant(6, 2), made(2, 3), 7);
        fits("DENSE, longest", DENSE, constant(64, 0), constant(64, 0), made(1, 0), 0);
        fits("DENSE, a is b", DENSE, constant(5, 0), SAME, made(1, 0), 0);
        bad("DENSE, b an input", DENSE, input(3, 1), input(6, 2), made(2, 3), 7);
        bad("DENSE, b too long", DENSE, input(3, 1), constant(7, 2), made(2, 3), 7);
        bad("DENSE, b too short", DENSE, input(3, 1), constant(5, 2), made(2, 3), 7);
        for (int kind = ADD; kind <= MUL; kind++) {
            fits("ADD or MUL", kind, input(3, 1), input(3, 2), made(3, 3), 7);
            fits("ADD or MUL with a constant", kind, input(3, 1), constant(3, 2), made(3, 3), 0);
            fits("ADD or MUL, a is b", kind, input(3, 1), SAME, made(3, 3), 0);
            bad("ADD or MUL, a", kind, input(4, 1), input(3, 2), made(3, 3), 0);
            bad("ADD or MUL, b", kind, input(3, 1), input(4, 2), made(3, 3), 0);
            bad("ADD or MUL, r", kind, input(3, 1), input(3, 2), made(4, 3), 0);
        }
    }

    private static void promise7FitsOfGroups() {
        due.part("promise 7, fault 3 of GREATEST and MEAN");
        for (int kind = GREATEST; kind <= MEAN; kind++) {
            for (int p = 2; p <= 4; p++) {
                fits("group", kind, input(3 * p, 5), SAME, made(3, 5), p);
                bad("group, a too long", kind, input(3 * p + 1, 5), SAME, made(3, 5), p);
                bad("group, a too short", kind, input(3 * p - 1, 5), SAME, made(3, 5), p);
                bad("group, zero", kind, input(3 * p, 5), SAME, made(3, 4), p);
                bad("group, b not a", kind, input(3 * p, 5), input(3 * p, 5), made(3, 5), p);
            }
            fits("group of a constant", kind, constant(64, 5), SAME, made(16, 5), 4);
            bad("group of 0", kind, input(3, 5), SAME, made(3, 5), 0);
            bad("group of 1", kind, input(3, 5), SAME, made(3, 5), 1);
            bad("group of 5", kind, input(15, 5), SAME, made(3, 5), 5);
        }
    }

    private static void promise7FitsOfMoves() {
        due.part("promise 7, fault 3 of LOOK, JOIN and TURN");
        fits("LOOK", LOOK, input(3, 1), constant(16, 2), made(3, 2), 0);
        fits("LOOK, a is b", LOOK, constant(16, 2), SAME, made(16, 2), 0);
        bad("LOOK, b an input", LOOK, input(3, 1), input(16, 2), made(3, 2), 0);
        bad("LOOK, b short", LOOK, input(3, 1), constant(15, 2), made(3, 2), 0);
        bad("LOOK, b long", LOOK, input(3, 1), constant(17, 2), made(3, 2), 0);
        bad("LOOK, lengths", LOOK, input(3, 1), constant(16, 2), made(4, 2), 0);
        bad("LOOK, zero", LOOK, input(3, 1), constant(16, 2), made(3, 1), 0);
        bad("LOOK, p", LOOK, input(3, 1), constant(16, 2), made(3, 2), 1);

        fits("JOIN", JOIN, input(3, 1), constant(2, 1), made(5, 1), 0);
        fits("JOIN, a is b", JOIN, input(3, 1), SAME, made(6, 1), 0);
        bad("JOIN, too long", JOIN, input(3, 1), input(2, 1), made(6, 1), 0);
        bad("JOIN, too short", JOIN, input(3, 1), input(2, 1), made(4, 1), 0);
        bad("JOIN, zero of a", JOIN, input(3, 2), input(2, 1), made(5, 1), 0);
        bad("JOIN, zero of b", JOIN, input(3, 1), input(2, 2), made(5, 1), 0);
        bad("JOIN, zero of r", JOIN, input(3, 1), input(2, 1), made(5, 2), 0);
        bad("JOIN, p", JOIN, input(3, 1), input(2, 1), made(5, 1), 1);

        fits("TURN", TURN, input(3, 1), SAME, made(3, 1), 0);
        bad("TURN, lengths", TURN, input(3, 1), SAME, made(4, 1), 0);
        bad("TURN, zero", TURN, input(3, 1), SAME, made(3, 2), 0);
        bad("TURN, b not a", TURN, input(3, 1), input(3, 1), made(3, 1), 0);
        bad("TURN, p", TURN, input(3, 1), SAME, made(3, 1), 2);
    }

    private static void promise7KeptButNeverMade() {
        due.part("promise 7, kept");
        ArenaNetwork x = network(input(4, 0), made(4, 0));
        due.is("a made one without operator, not kept", x.prepare(), 4);
        x.reopen();
        x.keep(1, true);
        due.is("kept", x.prepare(), -1000);
        due.is("not prepared", x.count(2), 0);
        x.keep(1, false);
        due.is("no more kept", x.prepare(), 4);
        x.reopen();
        x.keep(1, true);
        x.operator(ADD, 0, 0, 1, 0);
        due.is("kept and a result", x.prepare(), 8);
        x = network(made(4, 0), input(4, 0));
        x.keep(0, true);
        due.is("the first tensor", x.prepare(), -1000);
        x = network(input(4, 0), made(4, 0), constant(4, 0), made(4, 0));
        x.operator(ADD, 0, 0, 1, 0);
        x.keep(3, true);
        due.is("the last tensor", x.prepare(), -1000);
    }

    private static void promise7ChangesNothingWhenRefused() {
        due.part("promise 7, refused");
        ArenaNetwork x = network(input(4, 0), made(4, 0));
        due.is("good", x.prepare(), 4);
        due.is("again", x.prepare(), CLOSED);
        due.is("start", x.start(), 0);
        due.is("again in a run", x.prepare(), CLOSED);
        due.is("the run goes on", x.count(3), 0);
        x.reopen();
        x.operator(TURN, 1, 1, 1, 0);
        due.is("a fault", x.prepare(), -12);
        due.is("the same fault", x.prepare(), -12);
        due.is("start is closed", x.start(), CLOSED);
        due.is("in the making", x.tensor(MADE, 4, 0), 2);
    }

    private static void promise8Reopen() {
        due.part("promise 8");
        ArenaNetwork x = network(input(2, 0), made(2, 0), constant(2, 0));
        x.operator(TURN, 0, 0, 1, 0);
        x.set(0, 0, 3);
        x.set(2, 1, 4);
        x.scale(3, 2147483647, 1);
        x.keep(0, true);
        due.is("in the making", x.reopen(), CLOSED);
        due.is("prepare", x.prepare(), 6);
        x.start();
        x.step();
        due.is("prepared", x.reopen(), DONE);
        due.is("reopened already", x.reopen(), CLOSED);
        due.is("no run", x.count(3), -1);
        due.is("step", x.step(), CLOSED);
        due.is("finish", x.finish(), CLOSED);
        due.is("start", x.start(), CLOSED);
        due.is("the input's cell", x.cell(0, 0), NONE);
        due.is("the result's cell", x.cell(1, 1), NONE);
        due.is("the constant's cell", x.cell(2, 1), 4);
        due.is("tensors", x.count(0), 3);
        due.is("operators", x.count(1), 1);
        due.is("scale", x.scaled(3, 10), 5);
        due.is("prepare again", x.prepare(), 6);
        due.is("no run after it", x.count(3), -1);
        due.is("step after it", x.step(), CLOSED);
        due.is("finish after it", x.finish(), CLOSED);
        due.is("the input's cell after it", x.cell(0, 0), NONE);
        due.is("still kept", x.life(0, true), 1);
        x.start();
        due.is("the input as it was set", x.cell(0, 0), 3);
    }

    private static void offsets(ArenaNetwork x, int... wanted) {
        for (int t = 0; t < wanted.length; t++) {
            due.is("offset(" + t + ")", x.offset(t), wanted[t]);
        }
    }

    private static void promise13Offset() {
        due.part("promise 13");
        ArenaNetwork x = network(input(4, 0), constant(4, 0), made(4, 0), made(4, 0), input(8, 0));
        x.operator(ADD, 0, 1, 2, 0);
        due.is("prepare", x.prepare(), 12);
        offsets(x, 8, REFUSED, 0, REFUSED, 0, REFUSED);
        due.is("offset(-1)", x.offset(-1), REFUSED);
    }

    private static void promise13OffsetsAreMultiplesOfFour() {
        due.part("promise 13, multiples of 4");
        ArenaNetwork x = network(input(5, 0), input(3, 0), input(1, 0), input(16, 0), input(13, 0));
        due.is("prepare", x.prepare(), 45);
        offsets(x, 32, 40, 44, 0, 16);
        x = new ArenaNetwork();
        for (int i = 0; i < 20; i++) {
            x.tensor(INPUT, 16, 0);
        }
        due.is("the longest arena", x.prepare(), 320);
        due.is("its last offset", x.offset(19), 304);
    }

    private static void promise13GapsAreUsed() {
        due.part("promise 13, gaps");
        // Input 1 lies between inputs 0 and 2, which live on when operator 0 has ended its life.
        ArenaNetwork x = network(input(12, 0), input(8, 0), input(7, 0), made(2, 0), made(1, 0), made(7, 0), made(12, 0));
        x.operator(MEAN, 1, 1, 3, 4);
        x.operator(GREATEST, 3, 3, 4, 2);
        x.operator(TURN, 2, 2, 5, 0);
        x.operator(TURN, 0, 0, 6, 0);
        due.is("prepare", x.prepare(), 30);
        offsets(x, 0, 12, 20, 28, 12, 12, 12);
    }

    private static void promise13TouchingLivesMeet() {
        due.part("promise 13, touching lives");
        ArenaNetwork x = network(input(4, 0), made(4, 0), made(4, 0), made(4, 0));
        x.operator(TURN, 0, 0, 1, 0);
        x.operator(TURN, 1, 1, 2, 0);
        x.operator(TURN, 2, 2, 3, 0);
        due.is("each meets the next alone", x.prepare(), 8);
        offsets(x, 0, 4, 0, 4);
        x.reopen();
        x.keep(1, true);
        due.is("a kept one meets all later", x.prepare(), 12);
        offsets(x, 0, 4, 0, 8);
        x.reopen();
        x.keep(1, false);
        due.is("no more kept, the arena is short again", x.prepare(), 8);
        offsets(x, 0, 4, 0, 4);
        x = network(input(4, 0), input(4, 0), made(4, 0));
        x.operator(TURN, 1, 1, 2, 0);
        due.is("an input without use lives at -1 alone", x.prepare(), 8);
        offsets(x, 0, 4, 0);
    }

    private static void lives(ArenaNetwork x, int tensor, int begin, int end) {
        due.is("life(" + tensor + ", false)", x.life(tensor, false), begin);
        due.is("life(" + tensor + ", true)", x.life(tensor, true), end);
    }

    private static void promise14Life() {
        due.part("promise 14");
        ArenaNetwork x = network(input(4, 0), input(4, 0), made(4, 0), made(4, 0), made(4, 0), constant(4, 0), made(4, 0));
        x.operator(ADD, 0, 5, 2, 0);
        x.operator(ADD, 5, 2, 3, 0);
        x.operator(ADD, 2, 0, 4, 0);
        x.prepare();
        lives(x, 0, -1, 2);
        lives(x, 1, -1, -1);
        lives(x, 2, 0, 2);
        lives(x, 3, 1, 1);
        lives(x, 4, 2, 2);
        lives(x, 5, NONE, NONE);
        lives(x, 6, NONE, NONE);
        lives(x, 7, NONE, NONE);
        lives(x, -1, NONE, NONE);
        x.reopen();
        x.keep(1, true);
        x.keep(3, true);
        x.operator(TURN, 4, 4, 6, 0);
        x.prepare();
        lives(x, 1, -1, 4);
        lives(x, 3, 1, 4);
        lives(x, 4, 2, 3);
        lives(x, 6, 3, 3);
        x = network(input(4, 0), input(4, 0));
        x.keep(1, true);
        x.prepare();
        lives(x, 0, -1, -1);
        lives(x, 1, -1, 0);
    }

    private static void promise15Placed() {
        due.part("promise 15");
        ArenaNetwork x = network(made(16, 0), input(2, 0), constant(64, 0), input(16, 0), made(2, 0), input(7, 0), made(16, 0));
        x.operator(ADD, 3, 3, 6, 0);
        x.operator(TURN, 1, 1, 4, 0);
        x.prepare();
        int[] order = {3, 6, 5, 1, 4, REFUSED};
        for (int nth = 0; nth < order.length; nth++) {
            due.is("placed(" + nth + ")", x.placed(nth), order[nth]);
        }
        due.is("placed(-1)", x.placed(-1), REFUSED);
        x.reopen();
        x.operator(ADD, 3, 6, 0, 0);
        x.prepare();
        due.is("the new result first", x.placed(0), 0);
        due.is("the last one", x.placed(5), 4);
        due.is("no more", x.placed(6), REFUSED);
        due.is("sum of lengths", x.count(5), 59);
    }

    private static void withoutAnswersInTheMaking() {
        due.part("promises 13 to 15, not prepared");
        ArenaNetwork x = network(input(4, 0));
        notPlaced(x);
        x.prepare();
        due.is("offset", x.offset(0), 0);
        due.is("placed", x.placed(0), 0);
        lives(x, 0, -1, -1);
        x.reopen();
        notPlaced(x);
    }

    private static void notPlaced(ArenaNetwork x) {
        due.is("offset", x.offset(0), REFUSED);
        due.is("placed", x.placed(0), REFUSED);
        lives(x, 0, NONE, NONE);
    }
}
