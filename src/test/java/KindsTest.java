/** What each kind of operator makes of its sources (promises 10 and 11), and the term CLAMPED. */
public final class KindsTest extends Terms {
    public static void main(String[] args) {
        denseSums();
        denseAtItsLongest();
        denseClamps();
        addSums();
        addClamps();
        addClampsWithZerosAtTheEnds();
        mulMultiplies();
        mulClamps();
        scaledBySettingP();
        greatestOfGroups();
        meanIsTheNearest();
        meanHalvesGoAwayFromZero();
        meanIsOfCells();
        lookDividesBy16();
        joinChangesSourcesAtLength();
        turnFromTheLastCell();
        noUseForScales();
        due.end();
    }

    /** A network with one operator to come. */
    private static final class One {
        final ArenaNetwork x = new ArenaNetwork();

        One scale(int i, int multiplier, int shift) {
            x.scale(i, multiplier, shift);
            return this;
        }

        One source(int kind, int zero, int... cells) {
            setCells(x, x.tensor(kind, cells.length, zero), cells);
            return this;
        }

        /** The operator has the first source as a and the last as b. */
        void makes(String what, int kind, int p, int zero, int... wanted) {
            int b = x.count(0) - 1;
            int r = x.tensor(MADE, wanted.length, zero);
            x.operator(kind, 0, b, r, p);
            x.prepare();
            x.start();
            due.is(what + " is done", x.step(), 0);
            cellsAre(what, x, r, wanted);
        }
    }

    /** Scale 0 leaves numbers as they are. */
    private static One unscaled() {
        return new One().scale(0, WHOLE, 0);
    }

    private static void denseSums() {
        due.part("DENSE: the sum over j of (a[j] - Z(a)) * (b[i * L(a) + j] - Z(b)), j = 0 .. L(a) - 1");
        new One().source(INPUT, 2, 10, -20, 30).source(CONSTANT, -1, 1, 2, 3, -4, 0, 5).makes(
                "two rows of three", DENSE, 0, 7,
                7 + (8 * 2 - 22 * 3 + 28 * 4) / 2, 7 + (-8 * 3 - 22 + 28 * 6) / 2);
        unscaled().source(INPUT, 0, 5).source(CONSTANT, 0, 7).makes("one by one", DENSE, 0, 0, 35);
        unscaled().source(INPUT, 1, 3, 4, 5).source(CONSTANT, 2, 3, 4, 5).makes("one row", DENSE, 0, 0, 2 + 6 + 12);
        unscaled().source(INPUT, 1, 3).source(CONSTANT, 2, 3, 4, 5).makes("rows of one", DENSE, 0, 0, 2, 4, 6);
        unscaled().source(CONSTANT, 1, 3, 4).makes("a is b", DENSE, 0, 0, 4 + 9);
        unscaled().source(INPUT, 5, 5, 5).source(CONSTANT, 0, 99, -99).makes("a of its ZERO", DENSE, 0, -6, -6);
    }

    private static void denseAtItsLongest() {
        due.part("DENSE: the longest sources and the greatest sums");
        int[] least = filled(64, -128);
        int[] most = filled(64, 127);
        new One().scale(1, WHOLE, 16).source(CONSTANT, 127, least).source(CONSTANT, 127, least).makes(
                "64 * 255 * 255 / 65536", DENSE, 1, 0, 64);
        new One().scale(1, WHOLE, 16).source(CONSTANT, 127, least).source(CONSTANT, -128, most).makes(
                "-64 * 255 * 255 / 65536", DENSE, 1, 0, -64);
        int[] rows = new int[64];
        int[] wanted = new int[16];
        for (int i = 0; i < 16; i++) {
            rows[4 * i] = i;
            rows[4 * i + 3] = 1;
            wanted[i] = i + 2;
        }
        unscaled().source(INPUT, 0, 1, 9, 9, 2).source(CONSTANT, 0, rows).makes("16 rows of 4", DENSE, 0, 0, wanted);
    }

    private static void denseClamps() {
        due.part("DENSE: CLAMPED");
        unscaled().source(INPUT, 0, 1, 1).source(CONSTANT, 0, 127, -1, 127, 0, 127, 1, -128, 1, -128, 0, -128, -1).makes(
                "at both ends", DENSE, 0, 0, 126, 127, 127, -127, -128, -128);
    }

    private static void addSums() {
        due.part("ADD: a[i] - Z(a) + b[i] - Z(b)");
        new One().source(INPUT, 1, 11, 4, -128, 1).source(INPUT, -2, 3, -1, -128, -2).makes(
                "halves", ADD, 0, 10, 10 + 8, 10 + 2, 10 - 128, 10);
        new One().source(INPUT, 3, 5, -5).makes("a is b", ADD, 0, 0, 2, -8);
        unscaled().source(CONSTANT, 0, 1).source(INPUT, 0, 2).makes("of one cell", ADD, 0, 4, 7);
        unscaled().source(INPUT, 0, filled(16, 3)).source(INPUT, 0, filled(16, -5)).makes(
                "of 16 cells", ADD, 0, 0, filled(16, -2));
    }

    private static void addClamps() {
        due.part("CLAMPED(v) is -128 if v is below that, 127 if above that, else v");
        unscaled().source(INPUT, 0, 63, 64, 64, 127).source(INPUT, 0, 63, 63, 64, 127).makes(
                "126, 127, 128, 254", ADD, 0, 0, 126, 127, 127, 127);
        unscaled().source(INPUT, 0, -63, -64, -64, -128).source(INPUT, 0, -64, -64, -65, -128).makes(
                "-127, -128, -129, -256", ADD, 0, 0, -127, -128, -128, -128);
    }

    private static void addClampsWithZerosAtTheEnds() {
        due.part("CLAMPED is of the sum with Z(r)");
        unscaled().source(INPUT, 0, 0, 1, -1, -128, -128).source(INPUT, 0, 0, 0, 0, -127, -128).makes(
                "127 and 0, 1, -1, -255, -256", ADD, 0, 127, 127, 127, 126, -128, -128);
        unscaled().source(INPUT, -1, -1, -2, 0, 127, 127).source(INPUT, 0, 0, 0, 0, 126, 127).makes(
                "-128 and 0, -1, 1, 254, 255", ADD, 0, -128, -128, -128, -127, 126, 127);
        unscaled().source(INPUT, 127, -128, 127).makes("-510 and 0", ADD, 0, 127, -128, 127);
        unscaled().source(INPUT, -128, 127, -128).makes("510 and 0", ADD, 0, -128, 127, -128);
    }

    private static void mulMultiplies() {
        due.part("MUL: (a[i] - Z(a)) * (b[i] - Z(b))");
        new One().source(INPUT, 1, 4, -4, 1, 127).source(CONSTANT, -1, 2, 2, 50, 127).makes(
                "halves", MUL, 0, -5, -5 + 5, -5 - 8, -5, 127);
        new One().source(INPUT, 0, 3, -3).makes("a is b", MUL, 0, 0, 5, 5);
        new One().scale(6, WHOLE, 9).source(INPUT, 127, -128, -128).source(INPUT, -128, 127, 0).makes(
                "-255 * 255 / 512 and -255 * 128 / 512", MUL, 6, 0, -127, -64);
        new One().scale(6, WHOLE, 9).source(INPUT, 127, -128).makes("255 * 255 / 512", MUL, 6, 0, 127);
    }

    private static void mulClamps() {
        due.part("MUL: CLAMPED");
        unscaled().source(INPUT, 0, 127, 64, 127).source(INPUT, 0, 1, 2, 127).makes("above", MUL, 0, 0, 127, 127, 127);
        unscaled().source(INPUT, 0, -128, -43, -128).source(INPUT, 0, 1, 3, 127).makes("below", MUL, 0, 0, -128, -128, -128);
        unscaled().source(INPUT, 0, 5, -5).source(INPUT, 0, 5, 5).makes("neither", MUL, 0, 100, 125, 75);
    }

    private static void scaledBySettingP() {
        due.part("DENSE, ADD and MUL: SCALED(p, ..) with p 0 .. 7");
        for (int p = 0; p < 8; p++) {
            due.is("DENSE with scale " + p, madeWithScale(DENSE, CONSTANT, 1, p), p + 1);
            due.is("ADD with scale " + p, madeWithScale(ADD, INPUT, 0, p), p + 1);
            due.is("MUL with scale " + p, madeWithScale(MUL, INPUT, 1, p), p + 1);
        }
    }

    /** Scale i makes i + 1 of 64, whose product with 1 and sum with 0 the operator scales. */
    private static int madeWithScale(int kind, int kindOfB, int b, int p) {
        One one = new One();
        for (int i = 0; i < 8; i++) {
            one.scale(i, (i + 1) << 25, 0);
        }
        one.source(INPUT, 0, 64).source(kindOfB, 0, b);
        one.x.tensor(MADE, 1, 0);
        one.x.operator(kind, 0, 1, 2, p);
        one.x.prepare();
        one.x.start();
        one.x.finish();
        return one.x.cell(2, 0);
    }

    private static void greatestOfGroups() {
        due.part("GREATEST: of a[i * p] .. a[i * p + p - 1]");
        new One().source(INPUT, 9, 1, 2, 4, 3, -128, -128, 127, -128).makes("of 2", GREATEST, 2, 9, 2, 4, -128, 127);
        new One().source(INPUT, 9, -3, -2, -1, 5, 4, 3, 7, 8, 7).makes("of 3", GREATEST, 3, 9, -1, 5, 8);
        new One().source(CONSTANT, 9, 1, 2, 3, 4, -9, -8, -7, -10, 6, 5, 4, 3, 0, 1, 0, 0).makes(
                "of 4", GREATEST, 4, 9, 4, -7, 6, 1);
        new One().source(INPUT, 0, -128, -128).makes("all the least", GREATEST, 2, 0, -128);
        new One().source(INPUT, -5, -128, -127).makes("next to the least", GREATEST, 2, -5, -127);
        new One().source(CONSTANT, 0, filled(64, 3)).makes("64 cells", GREATEST, 4, 0, filled(16, 3));
    }

    private static void meanIsTheNearest() {
        due.part("MEAN: rounded to the nearest whole number");
        new One().source(INPUT, 0, 0, 0, 1, 0, 1, 1, 0, -1, -1, 0, 0, -1).makes("of 3", MEAN, 3, 0, 0, 1, -1, 0);
        new One().source(INPUT, 0, 1, 0, 0, 0, 1, 1, 1, 0, -1, 0, 0, 0, -1, -1, -1, 0).makes("of 4", MEAN, 4, 0, 0, 1, 0, -1);
        new One().source(INPUT, 0, 127, 127, -128, -128, 127, -127).makes("of 2", MEAN, 2, 0, 127, -128, 0);
        new One().source(CONSTANT, 0, filled(64, -128)).makes("64 cells", MEAN, 4, 0, filled(16, -128));
    }

    private static void meanHalvesGoAwayFromZero() {
        due.part("MEAN: halves away from zero");
        new One().source(INPUT, 0, 0, 1, 0, -1, 1, 2, -1, -2, 127, 126, -128, -127, 127, -128).makes(
                "of 2", MEAN, 2, 0, 1, -1, 2, -2, 127, -128, -1);
        new One().source(INPUT, 0, 1, 1, 0, 0, -1, 0, -1, 0, 2, 2, 1, 1, -2, -1, -2, -1).makes(
                "of 4", MEAN, 4, 0, 1, -1, 2, -2);
    }

    private static void meanIsOfCells() {
        due.part("MEAN: of the cells, whatever their ZERO");
        new One().source(INPUT, 100, 1, 2, -1, -2).makes("ZERO 100", MEAN, 2, 100, 2, -2);
        new One().source(INPUT, -100, 1, 2, -1, -2).makes("ZERO -100", MEAN, 2, -100, 2, -2);
    }

    private static void lookDividesBy16() {
        due.part("LOOK: b[(a[i] + 128) / 16]");
        int[] table = {50, -51, 52, -53, 54, -55, 56, -57, 58, -59, 60, -61, 62, -63, 64, -65};
        for (int at = 0; at < 16; at++) {
            int[] cells = new int[16];
            for (int i = 0; i < 16; i++) {
                cells[i] = -128 + 16 * at + i;
            }
            new One().source(INPUT, 77, cells).source(CONSTANT, 3, table).makes(
                    "from " + cells[0], LOOK, 0, 3, filled(16, table[at]));
        }
        new One().source(CONSTANT, 3, table).makes(
                "a is b", LOOK, 0, 3, -61, 54, -61, 54, -61, 54, -61, 54, -61, 54, -61, 54, -61, 54, 62, -53);
    }

    private static void joinChangesSourcesAtLength() {
        due.part("JOIN: a[i] for i below L(a), else b[i - L(a)]");
        new One().source(INPUT, 1, 5, 6, 7).source(CONSTANT, 1, -8, -9).makes("3 and 2", JOIN, 0, 1, 5, 6, 7, -8, -9);
        new One().source(INPUT, 1, 5).source(INPUT, 1, 6).makes("1 and 1", JOIN, 0, 1, 5, 6);
        new One().source(INPUT, 1, 5, 6).makes("a is b", JOIN, 0, 1, 5, 6, 5, 6);
        int[] wanted = filled(16, 2);
        wanted[0] = 1;
        new One().source(INPUT, 0, 1).source(INPUT, 0, filled(15, 2)).makes("1 and 15", JOIN, 0, 0, wanted);
        wanted = filled(16, 2);
        wanted[15] = 1;
        new One().source(INPUT, 0, filled(15, 2)).source(INPUT, 0, 1).makes("15 and 1", JOIN, 0, 0, wanted);
    }

    private static void turnFromTheLastCell() {
        due.part("TURN: a[L(a) - 1 - i]");
        new One().source(INPUT, 1, 5, 6, 7).makes("3 cells", TURN, 0, 1, 7, 6, 5);
        new One().source(INPUT, 1, 5).makes("1 cell", TURN, 0, 1, 5);
        new One().source(CONSTANT, -1, 1, 2, 3, 4, 5, 6, 7, 8, 9, 10, 11, 12, 13, 14, 15, 16).makes(
                "16 cells", TURN, 0, -1, 16, 15, 14, 13, 12, 11, 10, 9, 8, 7, 6, 5, 4, 3, 2, 1);
    }

    private static One everyScaleIs0() {
        One one = new One();
        for (int i = 0; i < 8; i++) {
            one.scale(i, 0, 30);
        }
        return one;
    }

    private static void noUseForScales() {
        due.part("GREATEST, MEAN, LOOK, JOIN and TURN have no use for SCALES");
        everyScaleIs0().source(INPUT, 7, 3, 9).makes("GREATEST", GREATEST, 2, 7, 9);
        everyScaleIs0().source(INPUT, 7, 3, 9).makes("MEAN", MEAN, 2, 7, 6);
        everyScaleIs0().source(INPUT, 7, 127).source(CONSTANT, 1, filled(16, 9)).makes("LOOK", LOOK, 0, 1, 9);
        everyScaleIs0().source(INPUT, 7, 3).source(INPUT, 7, 9).makes("JOIN", JOIN, 0, 7, 3, 9);
        everyScaleIs0().source(INPUT, 7, 3, 9).makes("TURN", TURN, 0, 7, 9, 3);
    }
}
