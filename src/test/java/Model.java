import java.math.BigDecimal;
import java.math.RoundingMode;
import java.util.ArrayList;
import java.util.Comparator;
import java.util.List;

/**
 * A second telling of the document, written for likeness to its words rather than for use: cells lie
 * in a real arena, places are found on a map of time and cells, and quotients are exact decimals.
 */
final class Model {
    private record Shape(int kind, int length, int zero) { }

    private record Step(int kind, int a, int b, int r, int p) { }

    private record Life(int begin, int end) { }

    private static final int NEVER = -1000;

    private final List<Shape> shapes = new ArrayList<>();
    private final List<int[]> set = new ArrayList<>();
    private final List<Boolean> kept = new ArrayList<>();
    private final List<Step> steps = new ArrayList<>();
    private final int[] multipliers = {1 << 30, 1 << 30, 1 << 30, 1 << 30, 1 << 30, 1 << 30, 1 << 30, 1 << 30};
    private final int[] shifts = new int[8];

    private boolean prepared;
    private final List<Life> lives = new ArrayList<>();
    private final int[] offsets = new int[20];
    private final List<Integer> order = new ArrayList<>();
    private int[] memory;
    private int done = -1;

    int tensor(int kind, int length, int zero) {
        if (kind < 0 || kind > 2 || length < 1 || length > (kind == 0 ? 64 : 16) || zero < -128 || zero > 127) {
            return -1;
        }
        if (prepared) {
            return -3;
        }
        if (shapes.size() == 20) {
            return -2;
        }
        shapes.add(new Shape(kind, length, zero));
        set.add(new int[length]);
        kept.add(false);
        return shapes.size() - 1;
    }

    int set(int tensor, int index, int value) {
        if (!there(tensor) || kind(tensor) == 2 || index < 0 || index >= length(tensor) || value < -128 || value > 127) {
            return -1;
        }
        if (kind(tensor) == 0 && prepared) {
            return -3;
        }
        set.get(tensor)[index] = value;
        return 0;
    }

    int scale(int i, int multiplier, int shift) {
        if (i < 0 || i > 7 || multiplier < 0 || shift < 0 || shift > 30) {
            return -1;
        }
        if (prepared) {
            return -3;
        }
        multipliers[i] = multiplier;
        shifts[i] = shift;
        return 0;
    }

    int operator(int kind, int a, int b, int r, int p) {
        if (kind < 0 || kind > 7 || !there(a) || !there(b) || !there(r) || p < 0 || p > 7) {
            return -1;
        }
        if (prepared) {
            return -3;
        }
        if (steps.size() == 14) {
            return -2;
        }
        steps.add(new Step(kind, a, b, r, p));
        return steps.size() - 1;
    }

    int keep(int tensor, boolean on) {
        if (!there(tensor) || kind(tensor) == 0) {
            return -1;
        }
        if (prepared) {
            return -3;
        }
        kept.set(tensor, on);
        return 0;
    }

    int prepare() {
        if (prepared) {
            return -3;
        }
        for (int i = 0; i < steps.size(); i++) {
            int fault = fault(steps.get(i), results(i));
            if (fault != 0) {
                return -10 * (i + 1) - fault;
            }
        }
        for (int t = 0; t < shapes.size(); t++) {
            if (kept.get(t) && kind(t) == 2 && !results(steps.size()).contains(t)) {
                return -1000;
            }
        }
        giveLives();
        place();
        prepared = true;
        return memory.length;
    }

    private List<Integer> results(int limit) {
        List<Integer> numbers = new ArrayList<>();
        for (Step s : steps.subList(0, limit)) {
            numbers.add(s.r);
        }
        return numbers;
    }

    private int fault(Step s, List<Integer> earlier) {
        if (kind(s.r) != 2 || earlier.contains(s.r)) {
            return 1;
        }
        if (kind(s.a) == 2 && !earlier.contains(s.a) || kind(s.b) == 2 && !earlier.contains(s.b)) {
            return 2;
        }
        return fits(s) && sourceAndSettingAsMustBe(s) ? 0 : 3;
    }

    private boolean fits(Step s) {
        int la = length(s.a);
        int lb = length(s.b);
        int lr = length(s.r);
        return switch (s.kind) {
            case 0 -> kind(s.b) == 0 && lb == la * lr;
            case 1, 2 -> la == lb && lb == lr;
            case 3, 4 -> s.p >= 2 && s.p <= 4 && la == lr * s.p && zero(s.a) == zero(s.r);
            case 5 -> kind(s.b) == 0 && lb == 16 && la == lr && zero(s.b) == zero(s.r);
            case 6 -> lr == la + lb && zero(s.a) == zero(s.b) && zero(s.b) == zero(s.r);
            default -> la == lr && zero(s.a) == zero(s.r);
        };
    }

    private static boolean sourceAndSettingAsMustBe(Step s) {
        boolean oneSource = s.kind == 3 || s.kind == 4 || s.kind == 7;
        return (!oneSource || s.a == s.b) && (s.kind < 5 || s.p == 0);
    }

    private void giveLives() {
        lives.clear();
        for (int t = 0; t < shapes.size(); t++) {
            int maker = results(steps.size()).indexOf(t);
            if (kind(t) == 0 || kind(t) == 2 && maker < 0) {
                lives.add(null);
                continue;
            }
            int begin = kind(t) == 1 ? -1 : maker;
            int end = begin;
            for (int i = 0; i < steps.size(); i++) {
                if (steps.get(i).a == t || steps.get(i).b == t) {
                    end = Math.max(end, i);
                }
            }
            lives.add(new Life(begin, kept.get(t) ? steps.size() : end));
        }
    }

    private void place() {
        order.clear();
        for (int t = 0; t < shapes.size(); t++) {
            if (lives.get(t) != null) {
                order.add(t);
            }
        }
        order.sort(Comparator.comparing((Integer t) -> -length(t)).thenComparing(t -> t));
        boolean[][] taken = new boolean[16][400];
        int arena = 0;
        for (int t : order) {
            int offset = 0;
            while (anyTaken(taken, t, offset)) {
                offset += 4;
            }
            offsets[t] = offset;
            arena = Math.max(arena, offset + length(t));
            for (int time = lives.get(t).begin; time <= lives.get(t).end; time++) {
                java.util.Arrays.fill(taken[time + 1], offset, offset + length(t), true);
            }
        }
        memory = new int[arena];
    }

    private boolean anyTaken(boolean[][] taken, int t, int offset) {
        for (int time = lives.get(t).begin; time <= lives.get(t).end; time++) {
            for (int i = 0; i < length(t); i++) {
                if (taken[time + 1][offset + i]) {
                    return true;
                }
            }
        }
        return false;
    }

    int reopen() {
        if (!prepared) {
            return -3;
        }
        prepared = false;
        done = -1;
        return 0;
    }

    int start() {
        if (!prepared) {
            return -3;
        }
        for (int t = 0; t < shapes.size(); t++) {
            if (kind(t) == 1) {
                System.arraycopy(set.get(t), 0, memory, offsets[t], length(t));
            }
        }
        done = 0;
        return steps.size();
    }

    int step() {
        if (!prepared || done < 0 || done == steps.size()) {
            return -3;
        }
        Step s = steps.get(done);
        for (int i = 0; i < length(s.r); i++) {
            memory[offsets[s.r] + i] = made(s, i);
        }
        return done++;
    }

    int finish() {
        if (!prepared || done < 0) {
            return -3;
        }
        int before = done;
        while (step() != -3) {
            continue;
        }
        return done - before;
    }

    private int read(int t, int i) {
        return kind(t) == 0 ? set.get(t)[i] : memory[offsets[t] + i];
    }

    private int made(Step s, int i) {
        int la = length(s.a);
        int za = zero(s.a);
        int zb = zero(s.b);
        long sum = 0;
        switch (s.kind) {
            case 0:
                for (int j = 0; j < la; j++) {
                    sum += (long) (read(s.a, j) - za) * (read(s.b, i * la + j) - zb);
                }
                return clamped(zero(s.r) + scale(s.p, sum));
            case 1:
                return clamped(zero(s.r) + scale(s.p, read(s.a, i) - za + read(s.b, i) - zb));
            case 2:
                return clamped(zero(s.r) + scale(s.p, (read(s.a, i) - za) * (read(s.b, i) - zb)));
            case 3:
                int most = NEVER;
                for (int j = i * s.p; j <= i * s.p + s.p - 1; j++) {
                    most = Math.max(most, read(s.a, j));
                }
                return most;
            case 4:
                for (int j = i * s.p; j <= i * s.p + s.p - 1; j++) {
                    sum += read(s.a, j);
                }
                return quotient(BigDecimal.valueOf(sum), BigDecimal.valueOf(s.p)).intValueExact();
            case 5:
                return read(s.b, Math.floorDiv(read(s.a, i) + 128, 16));
            case 6:
                return i < la ? read(s.a, i) : read(s.b, i - la);
            default:
                return read(s.a, la - 1 - i);
        }
    }

    private static BigDecimal quotient(BigDecimal dividend, BigDecimal divisor) {
        return dividend.divide(divisor, 0, RoundingMode.HALF_UP);
    }

    private int scale(int s, long v) {
        BigDecimal product = BigDecimal.valueOf(v).multiply(BigDecimal.valueOf(multipliers[s]));
        BigDecimal h = quotient(product, BigDecimal.valueOf(2147483648L));
        return quotient(h, BigDecimal.valueOf(2).pow(shifts[s])).intValueExact();
    }

    private static int clamped(int v) {
        return v < -128 ? -128 : v > 127 ? 127 : v;
    }

    int cell(int tensor, int index) {
        if (!there(tensor) || index < 0 || index >= length(tensor)) {
            return -1000;
        }
        if (kind(tensor) == 0) {
            return set.get(tensor)[index];
        }
        if (done < 0 || lives.get(tensor) == null) {
            return -1000;
        }
        Life life = lives.get(tensor);
        return life.begin < done && life.end >= done - 1 ? memory[offsets[tensor] + index] : -1000;
    }

    int offset(int tensor) {
        return prepared && there(tensor) && lives.get(tensor) != null ? offsets[tensor] : -1;
    }

    int life(int tensor, boolean end) {
        if (!prepared || !there(tensor) || lives.get(tensor) == null) {
            return -1000;
        }
        return end ? lives.get(tensor).end : lives.get(tensor).begin;
    }

    int placed(int nth) {
        return prepared && nth >= 0 && nth < order.size() ? order.get(nth) : -1;
    }

    int scaled(int i, int v) {
        return i < 0 || i > 7 || v < -16777216 || v > 16777216 ? 0 : scale(i, v);
    }

    int count(int what) {
        return switch (what) {
            case 0 -> shapes.size();
            case 1 -> steps.size();
            case 2 -> prepared ? 1 : 0;
            case 3 -> done;
            case 4 -> prepared ? memory.length : 0;
            case 5 -> prepared ? order.stream().mapToInt(this::length).sum() : 0;
            default -> -1;
        };
    }

    boolean there(int tensor) {
        return tensor >= 0 && tensor < shapes.size();
    }

    int kind(int tensor) {
        return shapes.get(tensor).kind;
    }

    int length(int tensor) {
        return shapes.get(tensor).length;
    }

    int zero(int tensor) {
        return shapes.get(tensor).zero;
    }

    /** Whether an operator that comes next could have the tensor as a source. */
    boolean canBeSource(int tensor) {
        return kind(tensor) != 2 || results(steps.size()).contains(tensor);
    }
}
