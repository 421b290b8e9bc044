/** When an operator fits, and b and p are as they must be: fault 3 of promise 7. */
public final class FitsTest extends Terms {
    /** An operator's two sources are one tensor. */
    private static final int[] SAME = null;

    public static void main(String[] args) {
        dense();
        denseAsksForAConstant();
        add();
        mul();
        groupsOf2To4();
        groupsAskForLengths();
        groupsAskForZeros();
        look();
        lookAsksForAConstant();
        join();
        turn();
        secondSourceMustBeTheFirst();
        settingMustBe0();
        due.end();
    }

    private static void fits(String what, int kind, int[] a, int[] b, int[] r, int p) {
        due.is(what + " fits", faultOf(kind, a, b, r, p), 0);
    }

    private static void bad(String what, int kind, int[] a, int[] b, int[] r, int p) {
        due.is(what + " doesn't fit", faultOf(kind, a, b, r, p), -13);
    }

    private static int faultOf(int kind, int[] a, int[] b, int[] r, int p) {
        ArenaNetwork x = network(a, r);
        int second = b == SAME ? 0 : x.tensor(b[0], b[1], b[2]);
        x.operator(kind, 0, second, 1, p);
        return Math.min(0, x.prepare());
    }

    private static void dense() {
        due.part("DENSE fits if L(b) = L(a) * L(r)");
        fits("3 and 2", DENSE, input(3, 1), constant(6, 2), made(2, 3), 7);
        bad("one too long", DENSE, input(3, 1), constant(7, 2), made(2, 3), 7);
        bad("one too short", DENSE, input(3, 1), constant(5, 2), made(2, 3), 7);
        bad("as long as the sum", DENSE, input(4, 0), constant(7, 0), made(3, 0), 0);
        fits("1 and 1", DENSE, input(1, -128), constant(1, 127), made(1, 0), 0);
        bad("1 and 1, b of 2", DENSE, input(1, 0), constant(2, 0), made(1, 0), 0);
        fits("16 and 4", DENSE, input(16, 0), constant(64, 0), made(4, 0), 0);
        fits("4 and 16", DENSE, input(4, 0), constant(64, 0), made(16, 0), 0);
        bad("4 and 16, b of 63", DENSE, input(4, 0), constant(63, 0), made(16, 0), 0);
        bad("more than any constant has", DENSE, input(16, 0), constant(64, 0), made(16, 0), 0);
        fits("64 and 1", DENSE, constant(64, 0), constant(64, 0), made(1, 0), 0);
        fits("a is b", DENSE, constant(5, 0), SAME, made(1, 0), 0);
    }

    private static void denseAsksForAConstant() {
        due.part("DENSE fits if b is a constant");
        bad("an input", DENSE, input(3, 0), input(6, 0), made(2, 0), 0);
        bad("an input that is a", DENSE, input(3, 0), SAME, made(1, 0), 0);
        due.is("a result", faultWithAResultAsB(DENSE, 4), -23);
    }

    /** The fault where b is the result of an earlier operator, that all else would fit. */
    private static int faultWithAResultAsB(int kind, int lengthOfA) {
        ArenaNetwork x = network(input(16, 0), made(16, 0), input(lengthOfA, 0), made(4, 0));
        x.operator(TURN, 0, 0, 1, 0);
        x.operator(kind, 2, 1, 3, 0);
        return x.prepare();
    }

    private static void add() {
        due.part("ADD fits if L(a) = L(b) = L(r)");
        fitsAsAdd(ADD);
    }

    private static void mul() {
        due.part("MUL fits as ADD");
        fitsAsAdd(MUL);
    }

    private static void fitsAsAdd(int kind) {
        fits("of 1", kind, input(1, 1), input(1, 2), made(1, 3), 0);
        fits("of 16", kind, input(16, 1), input(16, 2), made(16, 3), 7);
        fits("with a constant as b", kind, input(3, 1), constant(3, 2), made(3, 3), 0);
        fits("with a constant as a", kind, constant(3, 1), input(3, 2), made(3, 3), 0);
        fits("a is b", kind, input(3, 1), SAME, made(3, 3), 0);
        bad("a too long", kind, input(4, 1), input(3, 2), made(3, 3), 0);
        bad("a too short", kind, input(2, 1), input(3, 2), made(3, 3), 0);
        bad("b too long", kind, input(3, 1), input(4, 2), made(3, 3), 0);
        bad("b too short", kind, input(3, 1), input(2, 2), made(3, 3), 0);
        bad("r too long", kind, input(3, 1), input(3, 2), made(4, 3), 0);
        bad("r too short", kind, input(3, 1), SAME, made(2, 3), 0);
    }

    private static void groupsOf2To4() {
        due.part("GREATEST and MEAN fit if p is 2 .. 4");
        for (int kind = GREATEST; kind <= MEAN; kind++) {
            bad("group of 0", kind, input(3, 5), SAME, made(3, 5), 0);
            bad("group of 1", kind, input(3, 5), SAME, made(3, 5), 1);
            fits("group of 2", kind, input(6, 5), SAME, made(3, 5), 2);
            fits("group of 3", kind, input(9, 5), SAME, made(3, 5), 3);
            fits("group of 4", kind, input(12, 5), SAME, made(3, 5), 4);
            bad("group of 5", kind, input(15, 5), SAME, made(3, 5), 5);
            bad("group of 6", kind, input(12, 5), SAME, made(2, 5), 6);
            bad("group of 7", kind, input(14, 5), SAME, made(2, 5), 7);
        }
    }

    private static void groupsAskForLengths() {
        due.part("GREATEST and MEAN fit if L(a) = L(r) * p");
        for (int kind = GREATEST; kind <= MEAN; kind++) {
            for (int p = 2; p <= 4; p++) {
                bad("a one too long", kind, input(3 * p + 1, 5), SAME, made(3, 5), p);
                bad("a one too short", kind, input(3 * p - 1, 5), SAME, made(3, 5), p);
                fits("one group", kind, input(p, 5), SAME, made(1, 5), p);
                fits("16 groups", kind, constant(16 * p, 5), SAME, made(16, 5), p);
                bad("16 groups, a one too short", kind, constant(16 * p - 1, 5), SAME, made(16, 5), p);
            }
            bad("as another p would", kind, input(6, 5), SAME, made(2, 5), 2);
        }
    }

    private static void groupsAskForZeros() {
        due.part("GREATEST and MEAN fit if Z(a) = Z(r)");
        for (int kind = GREATEST; kind <= MEAN; kind++) {
            bad("r one less", kind, input(4, 5), SAME, made(2, 4), 2);
            bad("r one more", kind, input(4, 5), SAME, made(2, 6), 2);
            bad("the sign", kind, input(4, 5), SAME, made(2, -5), 2);
            fits("the least", kind, input(4, -128), SAME, made(2, -128), 2);
            fits("the greatest", kind, input(4, 127), SAME, made(2, 127), 2);
        }
    }

    private static void look() {
        due.part("LOOK fits if L(a) = L(r) and Z(b) = Z(r)");
        fits("of 1", LOOK, input(1, 1), constant(16, 2), made(1, 2), 0);
        fits("of 16", LOOK, input(16, 1), constant(16, 2), made(16, 2), 0);
        bad("r too long", LOOK, input(3, 1), constant(16, 2), made(4, 2), 0);
        bad("r too short", LOOK, input(3, 1), constant(16, 2), made(2, 2), 0);
        bad("r as b", LOOK, input(3, 1), constant(16, 2), made(16, 2), 0);
        bad("the ZERO of r is a's", LOOK, input(3, 1), constant(16, 2), made(3, 1), 0);
        bad("the ZERO of r is one more", LOOK, input(3, 1), constant(16, 2), made(3, 3), 0);
        fits("ZEROs at the ends", LOOK, input(3, 127), constant(16, -128), made(3, -128), 0);
    }

    private static void lookAsksForAConstant() {
        due.part("LOOK fits if b is a constant of LENGTH 16");
        bad("b an input", LOOK, input(3, 0), input(16, 0), made(3, 0), 0);
        due.is("b a result", faultWithAResultAsB(LOOK, 4), -23);
        bad("b of 15", LOOK, input(3, 0), constant(15, 0), made(3, 0), 0);
        bad("b of 17", LOOK, input(3, 0), constant(17, 0), made(3, 0), 0);
        bad("b of 64", LOOK, input(3, 0), constant(64, 0), made(3, 0), 0);
        fits("a is b", LOOK, constant(16, 0), SAME, made(16, 0), 0);
    }

    private static void join() {
        due.part("JOIN fits if L(r) = L(a) + L(b) and all three ZEROs are equal");
        fits("3 and 2", JOIN, input(3, 1), constant(2, 1), made(5, 1), 0);
        fits("1 and 1", JOIN, input(1, 1), input(1, 1), made(2, 1), 0);
        fits("15 and 1", JOIN, input(15, -128), input(1, -128), made(16, -128), 0);
        bad("16 and 1", JOIN, input(16, 1), input(1, 1), made(16, 1), 0);
        fits("a is b", JOIN, input(8, 127), SAME, made(16, 127), 0);
        bad("r too long", JOIN, input(3, 1), input(2, 1), made(6, 1), 0);
        bad("r too short", JOIN, input(3, 1), input(2, 1), made(4, 1), 0);
        bad("the ZERO of a", JOIN, input(3, 2), input(2, 1), made(5, 1), 0);
        bad("the ZERO of b", JOIN, input(3, 1), input(2, 2), made(5, 1), 0);
        bad("the ZERO of r", JOIN, input(3, 1), input(2, 1), made(5, 2), 0);
    }

    private static void turn() {
        due.part("TURN fits if L(a) = L(r) and Z(a) = Z(r)");
        fits("of 1", TURN, input(1, 1), SAME, made(1, 1), 0);
        fits("of 16", TURN, constant(16, -128), SAME, made(16, -128), 0);
        bad("r too long", TURN, input(3, 1), SAME, made(4, 1), 0);
        bad("r too short", TURN, input(3, 1), SAME, made(2, 1), 0);
        bad("a of more than any r", TURN, constant(17, 1), SAME, made(16, 1), 0);
        bad("r's ZERO one more", TURN, input(3, 1), SAME, made(3, 2), 0);
        bad("r's ZERO one less", TURN, input(3, 1), SAME, made(3, 0), 0);
    }

    private static void secondSourceMustBeTheFirst() {
        due.part("GREATEST, MEAN and TURN have no use for b, which must be a all the same");
        bad("GREATEST, another alike", GREATEST, input(4, 5), input(4, 5), made(2, 5), 2);
        bad("MEAN, another alike", MEAN, input(4, 5), input(4, 5), made(2, 5), 2);
        bad("TURN, another alike", TURN, input(4, 5), input(4, 5), made(4, 5), 0);
        bad("GREATEST, a constant", GREATEST, input(4, 5), constant(4, 5), made(2, 5), 2);
        bad("MEAN, a constant", MEAN, input(4, 5), constant(4, 5), made(2, 5), 2);
        bad("TURN, a constant", TURN, input(4, 5), constant(4, 5), made(4, 5), 0);
    }

    private static void settingMustBe0() {
        due.part("LOOK, JOIN and TURN have no use for p, which must be 0");
        for (int p = 1; p <= 7; p++) {
            bad("LOOK, p " + p, LOOK, input(3, 1), constant(16, 2), made(3, 2), p);
            bad("JOIN, p " + p, JOIN, input(3, 1), input(2, 1), made(5, 1), p);
            bad("TURN, p " + p, TURN, input(3, 1), SAME, made(3, 1), p);
        }
    }
}
