import java.util.ArrayList;

/**
 * A network of operators on small byte tensors: described call by call, prepared (checked and laid
 * into one arena), then run operator by operator in whole numbers only.
 */
public final class ArenaNetwork {
    public static final int DONE = 0;
    public static final int REFUSED = -1;
    public static final int FULL = -2;
    public static final int CLOSED = -3;
    public static final int NONE = -1000;

    private static final int MOST_TENSORS = 20;
    private static final int MOST_OPERATORS = 14;
    private static final int SCALES = 8;
    private static final int LAST_SHIFT = 30;
    private static final int GREATEST_SCALED = 16777216;
    private static final int LEAST_CELL = -128;
    private static final int GREATEST_CELL = 127;

    private static final int NO_FAULT = 0;
    private static final int BAD_RESULT = 1;
    private static final int BAD_SOURCE = 2;
    private static final int BAD_FIT = 3;
    private static final int KEPT_BUT_NEVER_MADE = -1000;

    private static final int NO_RUN = -1;

    private final ArrayList<Tensor> tensors = new ArrayList<>();
    private final ArrayList<Operator> operators = new ArrayList<>();
    private final Scale[] scales = new Scale[SCALES];
    private final Arena arena = new Arena();
    private boolean prepared = false;
    /** The operators done in the run under way; NO_RUN whenever the network is not prepared. */
    private int done = NO_RUN;

    public ArenaNetwork() {
        for (int i = 0; i < SCALES; i++) {
            scales[i] = new Scale();
        }
    }

    public int tensor(int kind, int length, int zero) {
        if (!isWithin(kind, Tensor.CONSTANT, Tensor.MADE)
                || !isWithin(length, 1, Tensor.greatestLength(kind))
                || !isCellValue(zero)) {
            return REFUSED;
        }
        if (prepared) {
            return CLOSED;
        }
        if (tensors.size() >= MOST_TENSORS) {
            return FULL;
        }
        int number = tensors.size();
        tensors.add(new Tensor(number, kind, length, zero));
        return number;
    }

    public int set(int tensor, int index, int value) {
        Tensor t = tensorAt(tensor);
        if (t == null || t.kind == Tensor.MADE || !t.hasCell(index) || !isCellValue(value)) {
            return REFUSED;
        }
        if (prepared && t.kind == Tensor.CONSTANT) {
            return CLOSED;
        }
        t.given[index] = value;
        return DONE;
    }

    public int scale(int i, int multiplier, int shift) {
        if (!isScale(i) || multiplier < 0 || !isWithin(shift, 0, LAST_SHIFT)) {
            return REFUSED;
        }
        if (prepared) {
            return CLOSED;
        }
        scales[i].multiplier = multiplier;
        scales[i].shift = shift;
        return DONE;
    }

    public int operator(int kind, int a, int b, int r, int p) {
        Tensor first = tensorAt(a);
        Tensor second = tensorAt(b);
        Tensor result = tensorAt(r);
        if (!isWithin(kind, Operator.DENSE, Operator.TURN)
                || first == null || second == null || result == null
                || !isScale(p)) {
            return REFUSED;
        }
        if (prepared) {
            return CLOSED;
        }
        if (operators.size() >= MOST_OPERATORS) {
            return FULL;
        }
        operators.add(new Operator(kind, first, second, result, p));
        return operators.size() - 1;
    }

    public int keep(int tensor, boolean on) {
        Tensor t = tensorAt(tensor);
        if (t == null || t.kind == Tensor.CONSTANT) {
            return REFUSED;
        }
        if (prepared) {
            return CLOSED;
        }
        t.kept = on;
        return DONE;
    }

    public int prepare() {
        if (prepared) {
            return CLOSED;
        }
        int fault = firstFault();
        if (fault != NO_FAULT) {
            return fault;
        }
        giveLives();
        arena.layOut(tensors);
        prepared = true;
        return arena.length;
    }

    public int reopen() {
        if (!prepared) {
            return CLOSED;
        }
        prepared = false;
        done = NO_RUN;
        return DONE;
    }

    public int start() {
        if (!prepared) {
            return CLOSED;
        }
        for (int i = 0; i < tensors.size(); i++) {
            tensors.get(i).takeGiven();
        }
        done = 0;
        return operators.size();
    }

    public int step() {
        if (done == NO_RUN || done >= operators.size()) {
            return CLOSED;
        }
        doNext();
        return done - 1;
    }

    public int finish() {
        if (done == NO_RUN) {
            return CLOSED;
        }
        int left = operators.size() - done;
        for (int i = 0; i < left; i++) {
            doNext();
        }
        return left;
    }

    public int cell(int tensor, int index) {
        Tensor t = tensorAt(tensor);
        if (t == null || !t.hasCell(index)) {
            return NONE;
        }
        if (t.kind == Tensor.CONSTANT || (done != NO_RUN && t.livesAfter(done))) {
            return t.cells[index];
        }
        return NONE;
    }

    public int offset(int tensor) {
        Tensor t = livingTensorAt(tensor);
        return t == null ? REFUSED : t.place;
    }

    public int life(int tensor, boolean end) {
        Tensor t = livingTensorAt(tensor);
        if (t == null) {
            return NONE;
        }
        return end ? t.end : t.begin;
    }

    public int placed(int nth) {
        if (!prepared || nth < 0 || nth >= arena.order.size()) {
            return REFUSED;
        }
        return arena.order.get(nth).number;
    }

    public int scaled(int i, int v) {
        if (!isScale(i) || !isWithin(v, -GREATEST_SCALED, GREATEST_SCALED)) {
            return 0;
        }
        return scales[i].applied(v);
    }

    public int count(int what) {
        switch (what) {
            case 0:
                return tensors.size();
            case 1:
                return operators.size();
            case 2:
                return prepared ? 1 : 0;
            case 3:
                return done;
            case 4:
                return prepared ? arena.length : 0;
            case 5:
                return prepared ? arena.sumOfLengths() : 0;
            default:
                return REFUSED;
        }
    }

    /** The tensor of that number, or null if it isn't there. */
    private Tensor tensorAt(int number) {
        return number >= 0 && number < tensors.size() ? tensors.get(number) : null;
    }

    /** The tensor of that number, or null if it isn't there or has no life in a prepared network. */
    private Tensor livingTensorAt(int number) {
        Tensor t = tensorAt(number);
        return prepared && t != null && t.hasLife ? t : null;
    }

    /** What prepare answers to a network that isn't good, or NO_FAULT. */
    private int firstFault() {
        for (int i = 0; i < operators.size(); i++) {
            int fault = faultOf(i);
            if (fault != NO_FAULT) {
                return -10 * (i + 1) - fault;
            }
        }
        for (int i = 0; i < tensors.size(); i++) {
            Tensor t = tensors.get(i);
            if (t.kept && isUnmadeBefore(operators.size(), t)) {
                return KEPT_BUT_NEVER_MADE;
            }
        }
        return NO_FAULT;
    }

    private int faultOf(int number) {
        Operator o = operators.get(number);
        if (!isUnmadeBefore(number, o.r)) {
            return BAD_RESULT;
        }
        if (isUnmadeBefore(number, o.a) || isUnmadeBefore(number, o.b)) {
            return BAD_SOURCE;
        }
        return o.fits() ? NO_FAULT : BAD_FIT;
    }

    /** Whether t is a made tensor that none of the operators below the limit has as its result. */
    private boolean isUnmadeBefore(int limit, Tensor t) {
        if (t.kind != Tensor.MADE) {
            return false;
        }
        for (int i = 0; i < limit; i++) {
            if (operators.get(i).r == t) {
                return false;
            }
        }
        return true;
    }

    private void giveLives() {
        for (int i = 0; i < tensors.size(); i++) {
            tensors.get(i).resetLife();
        }
        // In the order of the operators, the last use seen of a tensor is its greatest one.
        for (int i = 0; i < operators.size(); i++) {
            Operator o = operators.get(i);
            o.a.end = i;
            o.b.end = i;
            o.r.beginLife(i);
        }
        for (int i = 0; i < tensors.size(); i++) {
            Tensor t = tensors.get(i);
            if (t.kept) {
                t.end = operators.size();
            }
        }
    }

    private void doNext() {
        Operator o = operators.get(done);
        o.makeResult(scales[o.p]);
        done++;
    }

    private static boolean isScale(int i) {
        return isWithin(i, 0, SCALES - 1);
    }

    private static boolean isCellValue(int value) {
        return isWithin(value, LEAST_CELL, GREATEST_CELL);
    }

    private static boolean isWithin(int value, int least, int greatest) {
        return value >= least && value <= greatest;
    }

    /** dividend / divisor (above 0), rounded to the nearest whole number, halves away from zero. */
    private static long rounded(long dividend, long divisor) {
        long size = (Math.abs(dividend) + divisor / 2) / divisor;
        return dividend < 0 ? -size : size;
    }

    private static final class Tensor {
        static final int CONSTANT = 0;
        static final int INPUT = 1;
        static final int MADE = 2;

        static final int LONGEST_CONSTANT = 64;
        static final int LONGEST_PLACED = 16;

        final int number;
        final int kind;
        final int length;
        final int zero;
        /** What set has written. */
        final int[] given;
        /** What operators read and write. */
        final int[] cells;
        boolean kept = false;

        boolean hasLife = false;
        int begin = 0;
        int end = 0;
        int place = 0;

        Tensor(int number, int kind, int length, int zero) {
            this.number = number;
            this.kind = kind;
            this.length = length;
            this.zero = zero;
            given = new int[length];
            // Only an input can be set while a run still needs what it held at the start.
            cells = kind == INPUT ? new int[length] : given;
        }

        static int greatestLength(int kind) {
            return kind == CONSTANT ? LONGEST_CONSTANT : LONGEST_PLACED;
        }

        boolean hasCell(int index) {
            return index >= 0 && index < length;
        }

        void takeGiven() {
            if (kind == INPUT) {
                System.arraycopy(given, 0, cells, 0, length);
            }
        }

        void resetLife() {
            hasLife = false;
            if (kind == INPUT) {
                beginLife(-1);
            }
        }

        void beginLife(int at) {
            hasLife = true;
            begin = at;
            end = at;
        }

        boolean livesAfter(int operatorsDone) {
            return hasLife && begin < operatorsDone && end >= operatorsDone - 1;
        }

        boolean meets(Tensor other) {
            return begin <= other.end && other.begin <= end;
        }

        /** The cell as the number it stands for, before scaling. */
        int distance(int index) {
            return cells[index] - zero;
        }
    }

    private static final class Scale {
        int multiplier = 1073741824;
        int shift = 0;

        int applied(long v) {
            long high = rounded(v * multiplier, 1L << 31);
            return (int) rounded(high, 1L << shift);
        }
    }

    private static final class Operator {
        static final int DENSE = 0;
        static final int ADD = 1;
        static final int MUL = 2;
        static final int GREATEST = 3;
        static final int MEAN = 4;
        static final int LOOK = 5;
        static final int JOIN = 6;
        static final int TURN = 7;

        static final int LOOK_LENGTH = 16;

        final int kind;
        final Tensor a;
        final Tensor b;
        final Tensor r;
        final int p;

        Operator(int kind, Tensor a, Tensor b, Tensor r, int p) {
            this.kind = kind;
            this.a = a;
            this.b = b;
            this.r = r;
            this.p = p;
        }

        /** Whether the tensors fit the kind, and b and p are as they must be. */
        boolean fits() {
            switch (kind) {
                case DENSE:
                    return b.kind == Tensor.CONSTANT && b.length == a.length * r.length;
                case ADD:
                case MUL:
                    return a.length == r.length && b.length == r.length;
                case GREATEST:
                case MEAN:
                    return b == a && isWithin(p, 2, 4) && a.length == r.length * p && a.zero == r.zero;
                case LOOK:
                    return p == 0 && b.kind == Tensor.CONSTANT && b.length == LOOK_LENGTH
                            && a.length == r.length && b.zero == r.zero;
                case JOIN:
                    return p == 0 && r.length == a.length + b.length
                            && a.zero == r.zero && b.zero == r.zero;
                case TURN:
                    return p == 0 && b == a && a.length == r.length && a.zero == r.zero;
                default:
                    return false;
            }
        }

        /** Only for an operator that fits: every index below relies on it. */
        void makeResult(Scale scale) {
            for (int i = 0; i < r.length; i++) {
                r.cells[i] = resultCell(i, scale);
            }
        }

        private int resultCell(int i, Scale scale) {
            switch (kind) {
                case DENSE:
                    return clampedResult(scale.applied(denseSum(i)));
                case ADD:
                    return clampedResult(scale.applied(a.distance(i) + b.distance(i)));
                case MUL:
                    return clampedResult(scale.applied(a.distance(i) * b.distance(i)));
                case GREATEST:
                    return greatestOfGroup(i);
                case MEAN:
                    return (int) rounded(sumOfGroup(i), p);
                case LOOK:
                    return b.cells[(a.cells[i] - LEAST_CELL) / LOOK_LENGTH];
                case JOIN:
                    return i < a.length ? a.cells[i] : b.cells[i - a.length];
                case TURN:
                    return a.cells[a.length - 1 - i];
                default:
                    return 0;
            }
        }

        private int clampedResult(int aboveZero) {
            return Math.max(LEAST_CELL, Math.min(GREATEST_CELL, r.zero + aboveZero));
        }

        private int denseSum(int i) {
            int sum = 0;
            for (int j = 0; j < a.length; j++) {
                sum += a.distance(j) * b.distance(i * a.length + j);
            }
            return sum;
        }

        private int greatestOfGroup(int i) {
            int greatest = LEAST_CELL;
            for (int j = 0; j < p; j++) {
                greatest = Math.max(greatest, a.cells[i * p + j]);
            }
            return greatest;
        }

        private int sumOfGroup(int i) {
            int sum = 0;
            for (int j = 0; j < p; j++) {
                sum += a.cells[i * p + j];
            }
            return sum;
        }
    }

    /** Where the tensors with a life lie. */
    private static final class Arena {
        static final int GRAIN = 4;
        /** All tensors side by side take no more: the longest length is a multiple of the grain. */
        static final int LIMIT = MOST_TENSORS * Tensor.LONGEST_PLACED;

        final ArrayList<Tensor> order = new ArrayList<>();
        int length = 0;

        void layOut(ArrayList<Tensor> tensors) {
            order.clear();
            length = 0;
            for (int wanted = Tensor.LONGEST_PLACED; wanted >= 1; wanted--) {
                for (int i = 0; i < tensors.size(); i++) {
                    Tensor t = tensors.get(i);
                    if (t.hasLife && t.length == wanted) {
                        put(t);
                    }
                }
            }
        }

        int sumOfLengths() {
            int sum = 0;
            for (int i = 0; i < order.size(); i++) {
                sum += order.get(i).length;
            }
            return sum;
        }

        private void put(Tensor t) {
            t.place = leastPlace(t);
            length = Math.max(length, t.place + t.length);
            order.add(t);
        }

        private int leastPlace(Tensor t) {
            int at = 0;
            while (at < LIMIT && !isFree(t, at)) {
                at += GRAIN;
            }
            return at;
        }

        private boolean isFree(Tensor t, int at) {
            for (int i = 0; i < order.size(); i++) {
                Tensor other = order.get(i);
                boolean apart = at + t.length <= other.place || other.place + other.length <= at;
                if (!apart && t.meets(other)) {
                    return false;
                }
            }
            return true;
        }
    }
}
