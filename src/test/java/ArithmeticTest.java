/** What each kind of operator makes of its sources (promises 10 and 11), and promise 16: scaled. */
public final class ArithmeticTest extends Terms {
    private static final int NEARLY_ONE = 2147483647;
    private static final int HALF = 1073741824;

    public static void main(String[] args) {
        promise16Scaled();
        promise16ScaledRoundsTwice();
        promise16ScaledWrong();
        dense();
        denseAtItsGreatest();
        add();
        mul();
        greatest();
        mean();
        look();
        joinAndTurn();
        eachOperatorHasItsScale();
        due.end();
    }

    private static int scaled(int multiplier, int shift, int v) {
        ArenaNetwork x = new ArenaNetwork();
        x.scale(5, multiplier, shift);
        return x.scaled(5, v);
    }

    private static void promise16Scaled() {
        due.part("promise 16");
        due.is("0", scaled(NEARLY_ONE, 0, 0), 0);
        due.is("the greatest", scaled(NEARLY_ONE, 0, 16777216), 16777216);
        due.is("the least", scaled(NEARLY_ONE, 0, -16777216), -16777216);
        due.is("the greatest, shifted", scaled(NEARLY_ONE, 24, 16777216), 1);
        due.is("half of 5", scaled(HALF, 0, 5), 3);
        due.is("half of -5", scaled(HALF, 0, -5), -3);
        due.is("below a half", scaled(HALF - 1, 0, 1), 0);
        due.is("below a half, negative", scaled(HALF - 1, 0, -1), 0);
        due.is("a quarter of 6", scaled(HALF / 2, 0, 6), 2);
        due.is("a quarter of 5", scaled(HALF / 2, 0, 5), 1);
        due.is("halves of the shift", scaled(NEARLY_ONE, 3, 12), 2);
        due.is("halves of the shift, negative", scaled(NEARLY_ONE, 3, -12), -2);
        due.is("below halves of the shift", scaled(NEARLY_ONE, 3, 11), 1);
        due.is("the greatest shift", scaled(NEARLY_ONE, 30, 16777216), 0);
        due.is("the least multiplier that counts", scaled(64, 0, 16777216), 1);
        due.is("one less", scaled(63, 0, 16777216), 0);
    }

    private static void promise16ScaledRoundsTwice() {
        due.part("promise 16, rounded twice");
        due.is("5 / 2 is 3, 3 / 2 is 2", scaled(HALF, 1, 5), 2);
        due.is("-5 / 2 is -3, -3 / 2 is -2", scaled(HALF, 1, -5), -2);
        due.is("4 / 2 is 2, 2 / 2 is 1", scaled(HALF, 1, 4), 1);
        due.is("1 / 2 is 1, 1 / 2 is 1", scaled(HALF, 1, 1), 1);
        due.is("1 / 2 is 1, 1 / 4 is 0", scaled(HALF, 2, 1), 0);
    }

    private static void promise16ScaledWrong() {
        due.part("promise 16, wrong");
        ArenaNetwork x = new ArenaNetwork();
        due.is("scale -1", x.scaled(-1, 100), 0);
        due.is("scale 8", x.scaled(8, 100), 0);
        due.is("too great", x.scaled(0, 16777217), 0);
        due.is("too little", x.scaled(0, -16777217), 0);
        due.is("greatest int", x.scaled(7, Integer.MAX_VALUE), 0);
        due.is("least int", x.scaled(7, Integer.MIN_VALUE), 0);
        x.prepare();
        due.is("prepared", x.scaled(7, 100), 50);
    }

    /** A network with one operator to come, whose result is kept. */
    private static final class One {
        final ArenaNetwork x = new ArenaNetwork();

        One scale(int i, int multiplier, int shift) {
            x.scale(i, multiplier, shift);
            return this;
        }

        One source(int kind, int zero, int... cells) {
            int t = x.tensor(kind, cells.length, zero);
            for (int i = 0; i < cells.length; i++) {
                x.set(t, i, cells[i]);
            }
            return this;
        }

        /** The operator has the first source as a and the last as b. */
        void makes(String what, int kind, int p, int zero, int... wanted) {
            int b = x.count(0) - 1;
            int r = x.tensor(MADE, wanted.length, zero);
            x.operator(kind, 0, b, r, p);
            x.prepare();
            x.start();
            due.is(what + " is done", x.step(), 0);
            for (int i = 0; i < wanted.length; i++) {
                due.is(what + ", cell " + i, x.cell(r, i), wanted[i]);
            }
        }
    }

    private static void dense() {
        due.part("DENSE");
        new One().source(INPUT, 2, 10, -20, 30).source(CONSTANT, -1, 1, 2, 3, -4, 0, 5).makes(
                "ordinary", DENSE, 0, 7,
                7 + (8 * 2 - 22 * 3 + 28 * 4) / 2, 7 + (-8 * 3 - 22 + 28 * 6) / 2);
        new One().source(CONSTANT, 0, 3).source(CONSTANT, 0, 1, -1, 127, -128).makes(
                "one cell, clamped", DENSE, 0, 0, 2, -2, 127, -128);
        new One().source(CONSTANT, 1, 3, 4).makes("a is b", DENSE, 0, 0, 7);
    }

    private static void denseAtItsGreatest() {
        due.part("DENSE, greatest sum");
        int[] least = new int[64];
        java.util.Arrays.fill(least, -128);
        new One().scale(0, NEARLY_ONE, 15).source(CONSTANT, 127, least).source(CONSTANT, 127, least).makes(
                "64 * 255 * 255 / 32768", DENSE, 0, 0, 127);
        new One().scale(1, NEARLY_ONE, 16).source(CONSTANT, 127, least).source(CONSTANT, 127, least).makes(
                "64 * 255 * 255 / 65536", DENSE, 1, 0, 64);
        int[] most = new int[64];
        java.util.Arrays.fill(most, 127);
        new One().scale(1, NEARLY_ONE, 16).source(CONSTANT, 127, least).source(CONSTANT, -128, most).makes(
                "-64 * 255 * 255 / 65536", DENSE, 1, 0, -64);
    }

    private static void add() {
        due.part("ADD");
        new One().source(INPUT, 1, 11, 4, -128, 127, 1).source(INPUT, -2, 3, -1, -128, 127, -2).makes(
                "halves", ADD, 0, 10, 10 + 8, 10 + 2, 10 - 128, 127, 10);
        new One().scale(3, NEARLY_ONE, 0).source(INPUT, 127, -128, 127).source(INPUT, 127, -128, 127).makes(
                "clamped below", ADD, 3, 0, -128, 0);
        new One().scale(3, NEARLY_ONE, 0).source(INPUT, 0, 100, 63, 64).source(INPUT, 0, 100, 64, 64).makes(
                "clamped above", ADD, 3, 0, 127, 127, 127);
        new One().scale(3, NEARLY_ONE, 0).source(INPUT, 0, -100, -63, -64).source(INPUT, 0, 0, -64, -65).makes(
                "zero of the result", ADD, 3, -1, -101, -128, -128);
        new One().source(INPUT, 3, 5, -5).makes("a is b", ADD, 0, 0, 2, -8);
    }

    private static void mul() {
        due.part("MUL");
        new One().source(INPUT, 1, 4, -4, 1, 127).source(CONSTANT, -1, 2, 2, 50, 127).makes(
                "halves", MUL, 0, -5, -5 + 5, -5 - 8, -5, 127);
        new One().scale(6, NEARLY_ONE, 9).source(INPUT, 127, -128, -128).source(INPUT, -128, 127, 0).makes(
                "-255 * 255 / 512 and -255 * 128 / 512", MUL, 6, 0, -127, -64);
        new One().source(INPUT, 0, 3, -3).makes("a is b", MUL, 0, 0, 5, 5);
    }

    private static void greatest() {
        due.part("GREATEST");
        new One().source(INPUT, 9, 1, 2, 4, 3, -128, -128, 127, -128).makes(
                "of 2", GREATEST, 2, 9, 2, 4, -128, 127);
        new One().source(INPUT, 9, -3, -2, -1, 5, 4, 3).makes("of 3", GREATEST, 3, 9, -1, 5);
        new One().source(CONSTANT, 9, 1, 2, 3, 4, -9, -8, -7, -10).makes("of 4", GREATEST, 4, 9, 4, -7);
    }

    private static void mean() {
        due.part("MEAN");
        new One().source(INPUT, 100, 1, 2, -1, -2, 127, 127, -128, -128, 3, -4).makes(
                "of 2", MEAN, 2, 100, 2, -2, 127, -128, -1);
        new One().source(INPUT, 0, 0, 0, 1, 0, 1, 1, 0, -1, -1, 0, 0, -1).makes(
                "of 3", MEAN, 3, 0, 0, 1, -1, 0);
        new One().source(INPUT, 0, 1, 0, 0, 0, 1, 1, 0, 0, -1, 0, -1, 0, 0, 0, 0, -1).makes(
                "of 4", MEAN, 4, 0, 0, 1, -1, 0);
    }

    private static void look() {
        due.part("LOOK");
        int[] table = {50, 51, 52, 53, 54, 55, 56, 57, 58, 59, 60, 61, 62, 63, 64, 65};
        new One().source(INPUT, 77, -128, -113, -112, -1, 0, 15, 16, 111, 112, 127).source(CONSTANT, 3, table).makes(
                "the edges", LOOK, 0, 3, 50, 50, 51, 57, 58, 58, 59, 64, 65, 65);
    }

    private static void joinAndTurn() {
        due.part("JOIN and TURN");
        new One().source(INPUT, 1, 5, 6, 7).source(CONSTANT, 1, -8, -9).makes(
                "JOIN", JOIN, 0, 1, 5, 6, 7, -8, -9);
        new One().source(INPUT, 1, 5, 6).makes("JOIN, a is b", JOIN, 0, 1, 5, 6, 5, 6);
        new One().source(INPUT, 1, 5, 6, 7).makes("TURN", TURN, 0, 1, 7, 6, 5);
        new One().source(INPUT, 1, 5).makes("TURN of one", TURN, 0, 1, 5);
    }

    private static void eachOperatorHasItsScale() {
        due.part("scales of operators");
        for (int p = 0; p < 8; p++) {
            One one = new One();
            for (int i = 0; i < 8; i++) {
                one.scale(i, NEARLY_ONE, i);
            }
            one.source(INPUT, 0, 64).source(INPUT, 0, 0).makes("scale " + p, ADD, p, 0, (64 >> p) + (p == 7 ? 1 : 0));
        }
    }
}
