/** The terms SCALES and SCALED, and promises 4 and 16: scale and scaled. */
public final class ScaleTest extends Terms {
    private static final int FAR = 16777216;

    public static void main(String[] args) {
        atFirst();
        numbers();
        multipliers();
        shifts();
        eachHasItsOwn();
        scaleWhenPrepared();
        productIsRoundedToTheNearest();
        productHalvesGoAwayFromZero();
        shiftIsRoundedToTheNearest();
        shiftHalvesGoAwayFromZero();
        roundedTwice();
        shiftOf0AndOf30();
        scaledOfAScaleThatIsNotThere();
        scaledRange();
        scaledAtAnyTime();
        due.end();
    }

    private static int scaled(int multiplier, int shift, int v) {
        ArenaNetwork x = new ArenaNetwork();
        x.scale(5, multiplier, shift);
        return x.scaled(5, v);
    }

    /** SCALED of v, and of -v, which is due to be its mirror. */
    private static void scales(String what, int multiplier, int shift, int v, int wanted) {
        due.is(what, scaled(multiplier, shift, v), wanted);
        due.is(what + ", below 0", scaled(multiplier, shift, -v), -wanted);
    }

    private static void atFirst() {
        due.part("scales 0 .. 7 are 1073741824 and 0 at first");
        ArenaNetwork x = new ArenaNetwork();
        for (int i = 0; i < 8; i++) {
            due.is("scale " + i + " of 1", x.scaled(i, 1), 1);
            due.is("scale " + i + " of 2", x.scaled(i, 2), 1);
            due.is("scale " + i + " of 16777215", x.scaled(i, FAR - 1), 8388608);
            due.is("scale " + i + " of -16777216", x.scaled(i, -FAR), -8388608);
        }
    }

    private static void numbers() {
        due.part("promise 4: scale i (0 .. 7)");
        ArenaNetwork x = new ArenaNetwork();
        int[] wrong = {-1, 8, LEAST_INT, GREATEST_INT};
        for (int i : wrong) {
            due.is("scale " + i, x.scale(i, 0, 0), REFUSED);
        }
        for (int i = 0; i < 8; i++) {
            due.is("scale " + i, x.scale(i, 0, 0), DONE);
        }
    }

    private static void multipliers() {
        due.part("promise 4: multiplier 0 .. 2147483647");
        ArenaNetwork x = new ArenaNetwork();
        due.is("multiplier -1", x.scale(0, -1, 0), REFUSED);
        due.is("the least int", x.scale(0, LEAST_INT, 0), REFUSED);
        due.is("none of these was set", x.scaled(0, 10), 5);
        due.is("multiplier 2147483647", x.scale(0, 2147483647, 0), DONE);
        due.is("it was set", x.scaled(0, 10), 10);
        due.is("multiplier 0", x.scale(0, 0, 0), DONE);
        due.is("it was set", x.scaled(0, FAR), 0);
    }

    private static void shifts() {
        due.part("promise 4: shift 0 .. 30");
        ArenaNetwork x = new ArenaNetwork();
        int[] wrong = {-1, 31, 32, 63, 64, LEAST_INT, GREATEST_INT};
        for (int shift : wrong) {
            due.is("shift " + shift, x.scale(0, 0, shift), REFUSED);
        }
        due.is("none of these was set", x.scaled(0, 10), 5);
        due.is("shift 30", x.scale(0, WHOLE, 30), DONE);
        due.is("it was set", x.scaled(0, FAR), 0);
        due.is("shift 0", x.scale(0, WHOLE, 0), DONE);
        due.is("it was set", x.scaled(0, FAR), FAR);
    }

    private static void eachHasItsOwn() {
        due.part("each scale has a multiplier and a shift of its own");
        ArenaNetwork x = new ArenaNetwork();
        for (int i = 0; i < 8; i += 2) {
            x.scale(i, WHOLE, i);
        }
        int[] wanted = {1024, 512, 256, 512, 64, 512, 16, 512};
        for (int i = 0; i < 8; i++) {
            due.is("scale " + i, x.scaled(i, 1024), wanted[i]);
        }
    }

    private static void scaleWhenPrepared() {
        due.part("promise 4: PREPARED: CLOSED");
        ArenaNetwork x = new ArenaNetwork();
        x.prepare();
        due.is("prepared", x.scale(7, 0, 0), CLOSED);
        due.is("its arguments first: i", x.scale(8, 0, 0), REFUSED);
        due.is("its arguments first: multiplier", x.scale(7, -1, 0), REFUSED);
        due.is("its arguments first: shift", x.scale(7, 0, 31), REFUSED);
        x.start();
        due.is("in a run", x.scale(7, 0, 0), CLOSED);
        due.is("as it was", x.scaled(7, 10), 5);
        x.reopen();
        due.is("reopened", x.scale(7, 0, 0), DONE);
        due.is("set", x.scaled(7, 10), 0);
    }

    private static void productIsRoundedToTheNearest() {
        due.part("h is v * multiplier / 2147483648, rounded to the nearest");
        scales("a quarter of 5", HALF / 2, 0, 5, 1);
        scales("a quarter of 7", HALF / 2, 0, 7, 2);
        scales("a quarter of 8", HALF / 2, 0, 8, 2);
        scales("just below a half", HALF - 1, 0, 1, 0);
        scales("just above a half", HALF + 1, 0, 1, 1);
        scales("just below 1 1/2", HALF - 1, 0, 3, 1);
        scales("nearly 1", WHOLE, 0, 1, 1);
        scales("just below a half of the least step", 63, 0, FAR, 0);
        scales("0 of anything", WHOLE, 0, 0, 0);
        scales("anything by 0", 0, 0, FAR, 0);
        scales("the greatest product", WHOLE, 0, FAR, FAR);
    }

    private static void productHalvesGoAwayFromZero() {
        due.part("h: halves away from zero");
        scales("half of 1", HALF, 0, 1, 1);
        scales("half of 3", HALF, 0, 3, 2);
        scales("half of 5", HALF, 0, 5, 3);
        scales("a quarter of 6", HALF / 2, 0, 6, 2);
        scales("half of 16777215", HALF, 0, FAR - 1, FAR / 2);
        scales("a half of the least step", 64, 0, FAR, 1);
    }

    private static void shiftIsRoundedToTheNearest() {
        due.part("the result is h / 2 to the power shift, rounded to the nearest");
        scales("11 / 8", WHOLE, 3, 11, 1);
        scales("13 / 8", WHOLE, 3, 13, 2);
        scales("16 / 8", WHOLE, 3, 16, 2);
        scales("1 / 4", WHOLE, 2, 1, 0);
        scales("3 / 4", WHOLE, 2, 3, 1);
        scales("the greatest / 2 to the power 26", WHOLE, 26, FAR, 0);
    }

    private static void shiftHalvesGoAwayFromZero() {
        due.part("the result: halves away from zero");
        scales("1 / 2", WHOLE, 1, 1, 1);
        scales("3 / 2", WHOLE, 1, 3, 2);
        scales("12 / 8", WHOLE, 3, 12, 2);
        scales("20 / 8", WHOLE, 3, 20, 3);
        scales("the greatest / 2 to the power 25", WHOLE, 25, FAR, 1);
        scales("one less / 2 to the power 25", WHOLE, 25, FAR - 1, 0);
    }

    private static void roundedTwice() {
        due.part("rounded twice, not once");
        scales("5 / 2 is 3, 3 / 2 is 2", HALF, 1, 5, 2);
        scales("1 / 2 is 1, 1 / 2 is 1", HALF, 1, 1, 1);
        scales("1 / 2 is 1, 1 / 4 is 0", HALF, 2, 1, 0);
        scales("3 / 4 is 1, 1 / 2 is 1", HALF / 2, 1, 3, 1);
        scales("1 / 4 is 0, 0 / 2 is 0", HALF / 2, 1, 1, 0);
    }

    private static void shiftOf0AndOf30() {
        due.part("a shift of 0 and of 30");
        scales("shift 0 leaves h", HALF, 0, 14, 7);
        scales("shift 30 leaves nothing of the greatest h", WHOLE, 30, FAR, 0);
    }

    private static void scaledOfAScaleThatIsNotThere() {
        due.part("promise 16: scale i (0 .. 7; else 0)");
        ArenaNetwork x = new ArenaNetwork();
        int[] wrong = {-1, 8, LEAST_INT, GREATEST_INT};
        for (int i : wrong) {
            due.is("scale " + i, x.scaled(i, 100), 0);
        }
        due.is("scale 0", x.scaled(0, 100), 50);
        due.is("scale 7", x.scaled(7, 100), 50);
    }

    private static void scaledRange() {
        due.part("promise 16: v from -16777216 to 16777216 (else 0)");
        ArenaNetwork x = new ArenaNetwork();
        int[] wrong = {-FAR - 1, FAR + 1, LEAST_INT, GREATEST_INT};
        for (int v : wrong) {
            due.is("v " + v, x.scaled(0, v), 0);
        }
        due.is("v -16777216", x.scaled(0, -FAR), -FAR / 2);
        due.is("v 16777216", x.scaled(0, FAR), FAR / 2);
    }

    private static void scaledAtAnyTime() {
        due.part("promise 16: in the making, prepared and in a run");
        ArenaNetwork x = new ArenaNetwork();
        x.scale(3, WHOLE, 2);
        due.is("in the making", x.scaled(3, 100), 25);
        x.prepare();
        due.is("prepared", x.scaled(3, 100), 25);
        x.start();
        due.is("in a run", x.scaled(3, 100), 25);
        due.is("wrong in a run", x.scaled(8, 100), 0);
        x.reopen();
        due.is("reopened", x.scaled(3, 100), 25);
    }
}
