/** The terms PLACES and ARENA, and promises 13 and 15: offset and placed. */
public final class PlacesTest extends Terms {
    public static void main(String[] args) {
        greaterLengthsFirst();
        ofEqualOnesLowerNumbersFirst();
        thoseWithALife();
        aMultipleOf4();
        theLeastOffset();
        cellsAreApart();
        livesThatMeet();
        livesThatDoNotMeet();
        keptOnesMeetAllLater();
        theLengthOfTheArena();
        withoutAnyTheArenaIs0();
        theLongestArena();
        offsetOfWhatIsNotPlaced();
        offsetWhenNotPrepared();
        placedOutOfRange();
        placedWhenNotPrepared();
        due.end();
    }

    private static void placedAre(ArenaNetwork x, int... wanted) {
        for (int nth = 0; nth < wanted.length; nth++) {
            due.is("placed(" + nth + ")", x.placed(nth), wanted[nth]);
        }
        due.is("placed(" + wanted.length + ")", x.placed(wanted.length), REFUSED);
    }

    private static void offsetsAre(ArenaNetwork x, int... wanted) {
        for (int t = 0; t < wanted.length; t++) {
            due.is("offset(" + t + ")", x.offset(t), wanted[t]);
        }
    }

    private static void greaterLengthsFirst() {
        due.part("greater LENGTHS first");
        ArenaNetwork x = network(input(1, 0), input(2, 0), input(15, 0), input(16, 0), input(7, 0));
        x.prepare();
        placedAre(x, 3, 2, 4, 1, 0);
        offsetsAre(x, 44, 40, 16, 0, 32);
    }

    private static void ofEqualOnesLowerNumbersFirst() {
        due.part("of equal ones lower numbers first");
        ArenaNetwork x = network(made(3, 0), input(4, 0), input(3, 0), input(4, 0));
        x.operator(TURN, 2, 2, 0, 0);
        x.prepare();
        placedAre(x, 1, 3, 0, 2);
        offsetsAre(x, 0, 0, 8, 4);
    }

    private static void thoseWithALife() {
        due.part("those with a LIFE are placed");
        ArenaNetwork x = network(constant(4, 0), made(16, 0), input(4, 0), made(4, 0), made(4, 0), constant(64, 0));
        x.operator(ADD, 2, 0, 4, 0);
        due.is("prepare", x.prepare(), 8);
        placedAre(x, 2, 4);
        x.reopen();
        x.operator(ADD, 4, 0, 3, 0);
        due.is("prepare with one more", x.prepare(), 8);
        placedAre(x, 2, 3, 4);
    }

    private static void aMultipleOf4() {
        due.part("the least offset, a multiple of 4");
        ArenaNetwork x = network(input(5, 0), input(4, 0), input(3, 0), input(2, 0), input(1, 0), input(9, 0));
        due.is("prepare", x.prepare(), 33);
        offsetsAre(x, 12, 20, 24, 28, 32, 0);
    }

    /**
     * Inputs 0 and 1 of 8 cells lie at 0 and 8; 0 ends with operator 0, 1 lives on. What operator 2 and
     * later ones make of 1 can lie where 0 was.
     */
    private static ArenaNetwork withAHole(int... lengths) {
        ArenaNetwork x = network(input(8, 0), input(8, 0), made(1, 0), made(1, 0), constant(8, 0));
        x.operator(DENSE, 0, 4, 2, 0);
        x.operator(TURN, 2, 2, 3, 0);
        for (int length : lengths) {
            int weights = x.tensor(CONSTANT, 8 * length, 0);
            int r = x.tensor(MADE, length, 0);
            x.operator(DENSE, 1, weights, r, 0);
            x.keep(r, true);
        }
        x.keep(1, true);
        x.prepare();
        return x;
    }

    private static void holeIsFilled(int[] lengths, int... wanted) {
        ArenaNetwork x = withAHole(lengths);
        due.is("input 0", x.offset(0), 0);
        due.is("input 1", x.offset(1), 8);
        for (int i = 0; i < wanted.length; i++) {
            due.is("result " + i + " of " + lengths[i], x.offset(6 + 2 * i), wanted[i]);
        }
    }

    private static void theLeastOffset() {
        due.part("each gets the least offset");
        holeIsFilled(new int[] {8}, 0);
        holeIsFilled(new int[] {1}, 0);
        holeIsFilled(new int[] {4, 4}, 0, 4);
        holeIsFilled(new int[] {4, 4, 4}, 0, 4, 16);
        holeIsFilled(new int[] {8, 8}, 0, 16);
        holeIsFilled(new int[] {2, 2, 2}, 0, 4, 16);
    }

    private static void cellsAreApart() {
        due.part("the cells offset .. offset + LENGTH - 1 are apart");
        holeIsFilled(new int[] {5, 4}, 0, 16);
        holeIsFilled(new int[] {5, 3}, 0, 16);
        holeIsFilled(new int[] {4, 5}, 16, 0);
        holeIsFilled(new int[] {4, 3}, 0, 4);
        holeIsFilled(new int[] {4, 4, 1}, 0, 4, 16);
    }

    private static void livesThatMeet() {
        due.part("whose LIVES meet its own (begin and end counted in)");
        due.is("the one placed before ends where it begins", chain(1, 4).prepare(), 8);
        ArenaNetwork x = network(made(4, 0), input(4, 0));
        x.operator(TURN, 1, 1, 0, 0);
        due.is("the one placed before begins where it ends", x.prepare(), 8);
        offsetsAre(x, 0, 4);
        x = network(input(4, 0), input(4, 0));
        due.is("both at -1 alone", x.prepare(), 8);
        offsetsAre(x, 0, 4);
        x = network(input(4, 0), constant(4, 0), made(5, 0), made(4, 0), constant(20, 0), made(4, 0));
        x.operator(ADD, 1, 1, 3, 0);
        x.operator(DENSE, 3, 4, 2, 0);
        x.operator(ADD, 0, 3, 5, 0);
        due.is("one within the other", x.prepare(), 16);
        offsetsAre(x, 8, REFUSED, 0, 12, REFUSED, 0);
    }

    private static void livesThatDoNotMeet() {
        due.part("LIVES that don't meet may share cells");
        ArenaNetwork x = chain(3, 4);
        due.is("each meets the next alone", x.prepare(), 8);
        offsetsAre(x, 0, 4, 0, 4);
        x = network(constant(4, 0), made(4, 0), made(4, 0), input(4, 0));
        x.operator(ADD, 0, 0, 2, 0);
        x.operator(ADD, 0, 0, 1, 0);
        due.is("each ends just before the next", x.prepare(), 4);
        offsetsAre(x, REFUSED, 0, 0, 0);
    }

    private static void keptOnesMeetAllLater() {
        due.part("a KEPT one lives to n");
        ArenaNetwork x = chain(3, 4);
        x.keep(1, true);
        due.is("kept", x.prepare(), 12);
        offsetsAre(x, 0, 4, 0, 8);
        x.reopen();
        x.keep(1, false);
        due.is("no more kept", x.prepare(), 8);
        offsetsAre(x, 0, 4, 0, 4);
        x.reopen();
        for (int t = 0; t < 4; t++) {
            x.keep(t, true);
        }
        due.is("all kept", x.prepare(), 16);
        offsetsAre(x, 0, 4, 8, 12);
    }

    private static void theLengthOfTheArena() {
        due.part("the ARENA is as long as the greatest offset + LENGTH");
        due.is("one of 16", network(input(16, 0)).prepare(), 16);
        due.is("one of 1", network(input(1, 0)).prepare(), 1);
        due.is("5 and 1 at 8", network(input(5, 0), input(1, 0)).prepare(), 9);
        ArenaNetwork x = network(constant(16, 0), made(16, 0), input(5, 0), input(1, 0));
        x.operator(ADD, 0, 0, 1, 0);
        due.is("16 at 0, later than 5 and 1 at 8", x.prepare(), 16);
        offsetsAre(x, REFUSED, 0, 0, 8);
    }

    private static void withoutAnyTheArenaIs0() {
        due.part("0 without any");
        due.is("nothing there", new ArenaNetwork().prepare(), 0);
        due.is("a constant", network(constant(64, 0)).prepare(), 0);
        due.is("a made one without operator", network(made(16, 0)).prepare(), 0);
    }

    private static void theLongestArena() {
        due.part("20 tensors of 16 cells that meet");
        ArenaNetwork x = new ArenaNetwork();
        for (int i = 0; i < 20; i++) {
            x.tensor(INPUT, 16, 0);
        }
        due.is("prepare", x.prepare(), 320);
        for (int i = 0; i < 20; i++) {
            due.is("offset", x.offset(i), 16 * i);
            due.is("placed", x.placed(i), i);
        }
        x = new ArenaNetwork();
        for (int i = 0; i < 20; i++) {
            x.tensor(INPUT, 13, 0);
        }
        due.is("of 13 cells each", x.prepare(), 19 * 16 + 13);
    }

    private static void offsetOfWhatIsNotPlaced() {
        due.part("promise 13: REFUSED if it isn't there, has no LIFE");
        ArenaNetwork x = network(constant(4, 0), input(4, 0), made(4, 0), made(4, 0));
        x.operator(ADD, 1, 0, 3, 0);
        x.prepare();
        int[] wrong = {-1, 4, 20, LEAST_INT, GREATEST_INT, 0, 2};
        for (int tensor : wrong) {
            due.is("offset(" + tensor + ")", x.offset(tensor), REFUSED);
        }
        due.is("an input", x.offset(1), 0);
        due.is("the last tensor", x.offset(3), 4);
    }

    private static void offsetWhenNotPrepared() {
        due.part("promise 13: REFUSED if the network isn't PREPARED");
        ArenaNetwork x = chain(1, 4);
        due.is("in the making", x.offset(0), REFUSED);
        x.prepare();
        due.is("prepared", x.offset(1), 4);
        x.start();
        x.finish();
        due.is("after a run, of one that lives no more", x.offset(0), 0);
        x.reopen();
        due.is("reopened", x.offset(0), REFUSED);
        due.is("reopened, a result", x.offset(1), REFUSED);
    }

    private static void placedOutOfRange() {
        due.part("promise 15: REFUSED if there is none");
        ArenaNetwork x = chain(2, 4);
        x.tensor(CONSTANT, 4, 0);
        x.prepare();
        int[] wrong = {-1, 3, 20, LEAST_INT, GREATEST_INT};
        for (int nth : wrong) {
            due.is("placed(" + nth + ")", x.placed(nth), REFUSED);
        }
        due.is("the first", x.placed(0), 0);
        due.is("the last", x.placed(2), 2);
        x = network(constant(4, 0));
        x.prepare();
        due.is("none at all", x.placed(0), REFUSED);
    }

    private static void placedWhenNotPrepared() {
        due.part("promise 15: REFUSED if the network isn't PREPARED");
        ArenaNetwork x = chain(1, 4);
        due.is("in the making", x.placed(0), REFUSED);
        x.prepare();
        due.is("prepared", x.placed(1), 1);
        x.reopen();
        due.is("reopened", x.placed(0), REFUSED);
    }
}
