import java.util.Random;

/** All promises: drawn runs of calls, each answer compared with the model's. */
public final class ModelTest {
    private static final int NETWORKS = 3000;
    private static final int CALLS = 512;
    private static final int[] EDGES = {Integer.MIN_VALUE, -1001, -129, -128, -1, 0, 1, 127, 128, 1001, Integer.MAX_VALUE};

    private static final Due due = new Due();

    private final Random random;
    private final ArenaNetwork x = new ArenaNetwork();
    private final Model model = new Model();
    private int calls = 0;
    private int cellsRead = 0;
    private int operatorsDone = 0;

    private ModelTest(long seed) {
        random = new Random(seed);
    }

    public static void main(String[] args) {
        long cells = 0;
        long done = 0;
        for (int n = 0; n < NETWORKS && !due.anyWrong(); n++) {
            ModelTest test = new ModelTest(n);
            due.part("network " + n);
            test.callUntilTheEnd();
            cells += test.cellsRead;
            done += test.operatorsDone;
        }
        due.part("reach");
        due.is("enough operators were done (" + done + ")", done > 10L * NETWORKS ? 1 : 0, 1);
        due.is("enough cells were read (" + cells + ")", cells > 10L * NETWORKS ? 1 : 0, 1);
        due.end();
    }

    private void callUntilTheEnd() {
        // Few networks stay good when every call is drawn blindly.
        int strays = random.nextInt(4) == 0 ? 10 : 200;
        while (calls < CALLS && !due.anyWrong()) {
            if (random.nextInt(strays) == 0) {
                describe(strayDraw());
            } else if (model.count(2) == 0) {
                makeGood();
            } else {
                useGood();
            }
        }
    }

    private interface Draw {
        int next(int least, int greatest);
    }

    private int within(int least, int greatest) {
        return least + (int) Math.floorMod(random.nextLong(), greatest - least + 1L);
    }

    /** Numbers in the range, just outside it, or far away. */
    private Draw strayDraw() {
        return (least, greatest) -> random.nextInt(12) == 0
                ? EDGES[random.nextInt(EDGES.length)]
                : within(least - random.nextInt(2), greatest + random.nextInt(2));
    }

    private void describe(Draw draw) {
        int tensors = Math.max(1, model.count(0)) - 1;
        switch (random.nextInt(5)) {
            case 0 -> tensor(draw.next(0, 2), draw.next(1, random.nextBoolean() ? 16 : 64), draw.next(-128, 127));
            case 1 -> set(draw.next(0, tensors), draw.next(0, 15), draw.next(-128, 127));
            case 2 -> scale(draw.next(0, 7), draw.next(0, Integer.MAX_VALUE - 2), draw.next(0, 30));
            case 3 -> operator(draw.next(0, 7), draw.next(0, tensors), draw.next(0, tensors), draw.next(0, tensors), draw.next(0, 7));
            default -> keep(draw.next(0, tensors), random.nextBoolean());
        }
    }

    private void makeGood() {
        switch (random.nextInt(16)) {
            case 0, 1 -> tensor(random.nextInt(2), within(1, 16), smallZero());
            case 2, 3, 4, 5 -> fittingOperator();
            case 6, 7, 8 -> setAny();
            case 9 -> scale(random.nextInt(8), (int) (random.nextLong() >>> 33) >> random.nextInt(6), random.nextInt(4) == 0 ? random.nextInt(31) : random.nextInt(6));
            case 10 -> keep(within(0, model.count(0)), random.nextInt(3) == 0);
            case 11, 12 -> look(strayDraw());
            default -> {
                if (model.count(1) > random.nextInt(10)) {
                    prepare();
                }
            }
        }
    }

    private void useGood() {
        switch (random.nextInt(48)) {
            case 0 -> same("reopen", x.reopen(), model.reopen());
            case 1 -> prepare();
            case 2 -> describe(this::within);
            case 3, 4 -> setAny();
            case 5, 6, 7, 8 -> same("start", x.start(), model.start());
            case 9 -> {
                operatorsDone += Math.max(0, same("finish", x.finish(), model.finish()));
            }
            case 10, 11, 12, 13, 14, 15, 16, 17, 18, 19, 20, 21 -> {
                operatorsDone += same("step", x.step(), model.step()) < 0 ? 0 : 1;
                lookAtAll();
            }
            default -> look(random.nextInt(4) == 0 ? strayDraw() : this::within);
        }
    }

    private void look(Draw draw) {
        int tensor = draw.next(0, Math.max(0, model.count(0) - 1));
        int length = model.there(tensor) ? model.length(tensor) : 16;
        switch (random.nextInt(10)) {
            case 0 -> same("offset " + tensor, x.offset(tensor), model.offset(tensor));
            case 1 -> {
                boolean end = random.nextBoolean();
                same("life " + tensor + " " + end, x.life(tensor, end), model.life(tensor, end));
            }
            case 2 -> {
                int nth = draw.next(0, 19);
                same("placed " + nth, x.placed(nth), model.placed(nth));
            }
            case 3 -> {
                int i = draw.next(0, 7);
                int v = draw.next(-16777216, 16777216) >> random.nextInt(16);
                same("scaled " + i + " " + v, x.scaled(i, v), model.scaled(i, v));
            }
            case 4 -> {
                int what = draw.next(0, 5);
                same("count " + what, x.count(what), model.count(what));
            }
            default -> {
                int index = draw.next(0, length - 1);
                cell(tensor, index);
            }
        }
    }

    private void lookAtAll() {
        for (int t = 0; t < model.count(0) && calls < CALLS; t++) {
            cell(t, random.nextInt(model.length(t)));
        }
    }

    private void cell(int tensor, int index) {
        int got = same("cell " + tensor + " " + index, x.cell(tensor, index), model.cell(tensor, index));
        cellsRead += got == ArenaNetwork.NONE || model.kind(tensor) == 0 ? 0 : 1;
    }

    /** Mostly alike, so that the kinds which ask for equal ones often fit. */
    private int smallZero() {
        return random.nextInt(4) == 0 ? within(-128, 127) : 3;
    }

    private void setAny() {
        int tensor = within(0, model.count(0));
        int index = random.nextInt(model.there(tensor) ? model.length(tensor) : 16);
        set(tensor, index, within(-128, 127));
    }

    private void fittingOperator() {
        int a = source();
        int b = source();
        if (a < 0 || b < 0 || model.count(0) > 18) {
            return;
        }
        int kind = random.nextInt(8);
        int p = kind < 3 ? random.nextInt(8) : kind < 5 ? within(2, 4) : 0;
        int la = model.length(a);
        int lengthOfResult = la;
        int zero = kind < 3 ? smallZero() : model.zero(a);
        if (kind == 0) {
            lengthOfResult = within(1, Math.max(1, Math.min(16, 64 / la)));
            b = filledConstant(la * lengthOfResult);
        } else if (kind == 1 || kind == 2) {
            b = model.length(b) == la ? b : a;
        } else if (kind == 3 || kind == 4) {
            b = a;
            lengthOfResult = la / p;
        } else if (kind == 5) {
            b = filledConstant(16);
            zero = model.there(b) ? model.zero(b) : 0;
        } else if (kind == 6) {
            lengthOfResult = la + model.length(b);
        } else {
            b = a;
        }
        boolean fits = (kind != 3 && kind != 4 || la % p == 0) && (kind != 6 || model.zero(a) == model.zero(b));
        if (fits && tensor(2, lengthOfResult, zero) >= 0) {
            operator(kind, a, b, model.count(0) - 1, p);
        }
    }

    private int source() {
        for (int tries = 0; tries < 20 && model.count(0) > 0; tries++) {
            int t = random.nextInt(model.count(0));
            if (model.canBeSource(t)) {
                return t;
            }
        }
        return -1;
    }

    private int filledConstant(int length) {
        int t = tensor(0, length, within(-20, 20));
        for (int i = 0; i < length && i < 8; i++) {
            set(t, random.nextInt(length), within(-128, 127));
        }
        return t;
    }

    private int tensor(int kind, int length, int zero) {
        return same("tensor " + kind + " " + length + " " + zero, x.tensor(kind, length, zero), model.tensor(kind, length, zero));
    }

    private void set(int tensor, int index, int value) {
        same("set " + tensor + " " + index + " " + value, x.set(tensor, index, value), model.set(tensor, index, value));
    }

    private void scale(int i, int multiplier, int shift) {
        same("scale " + i + " " + multiplier + " " + shift, x.scale(i, multiplier, shift), model.scale(i, multiplier, shift));
    }

    private void operator(int kind, int a, int b, int r, int p) {
        same("operator " + kind + " " + a + " " + b + " " + r + " " + p, x.operator(kind, a, b, r, p), model.operator(kind, a, b, r, p));
    }

    private void keep(int tensor, boolean on) {
        same("keep " + tensor + " " + on, x.keep(tensor, on), model.keep(tensor, on));
    }

    private void prepare() {
        same("prepare", x.prepare(), model.prepare());
    }

    private int same(String call, int got, int want) {
        calls++;
        due.is("call " + calls + ", " + call, got, want);
        return got;
    }
}
