import java.util.Arrays;
import java.util.Random;

/**
 * Runs of calls, drawn by fixed seeds, on TankLayers and on PlainTanks: every answer, every
 * exception and, after each call, every layer must be the same.
 */
public final class AgainstPlainTanks {
    private static final String[] NAMES = {"tank", "cold", "charge", "round", "heat", "loses", "rod", "draws",
        "run", "layers", "layer", "sensor", "warm", "told"};
    private static final int[] ARGUMENTS = {2, 1, 4, 3, 4, 4, 7, 3, 1, 1, 3, 2, 2, 2};
    private static final int[] EDGES = {Integer.MIN_VALUE, -1000000001, -1001, -1, 0, 1, 39, 40, 41, 300, 301, 1439,
        1440, 100000, 100001, 200000, 200001, 1000000, 1000001, 10000000, 10000001, 1000000001, Integer.MAX_VALUE};

    private final Checks checks;
    private final Random random;
    private final TankLayers real = new TankLayers();
    private final PlainTanks plain = new PlainTanks();
    private final int[] volumes = new int[4];
    private final int kind;
    private int tanks = 0;
    private int refused = 0;

    private AgainstPlainTanks(Checks checks, long seed) {
        this.checks = checks;
        this.random = new Random(seed);
        this.kind = (int) (seed % 4);
    }

    public static void main(String[] args) {
        Checks checks = new Checks();
        int mostLayers = 0;
        int refused = 0;
        for (long seed = 0; seed < 240; seed++) {
            AgainstPlainTanks it = new AgainstPlainTanks(checks, seed);
            int calls = seed < 40 ? 512 : 160;
            for (int k = 0; k < calls; k++) {
                it.call("seed " + seed + " call " + k + ": ");
                mostLayers = Math.max(mostLayers, it.compareState("seed " + seed + " after call " + k + ": "));
            }
            refused += it.refused;
        }
        for (int sign = -1; sign <= 1; sign += 2) {
            hottest(checks, sign);
        }
        checks.due("a run came to the most layers", mostLayers, 40);
        checks.due("some calls were refused", refused > 1000 ? 1 : 0, 1);
        checks.end();
    }

    /** All heat that 512 calls can bring, in one part of water, against every product in the class. */
    private static void hottest(Checks checks, int sign) {
        AgainstPlainTanks it = new AgainstPlainTanks(checks, 0);
        int edge = sign > 0 ? 200000 : -1000;
        it.both("hottest: ", 0, 100000, edge);
        it.both("hottest: ", 0, 100000, edge);
        it.both("hottest: ", 6, 0, 99999, 100000, 10000000, 0, 200000, 200000);
        for (int k = 0; k < 480; k++) {
            it.both("hottest: ", 4, 0, sign > 0 ? 99999 : 0, sign > 0 ? 100000 : 1, sign * 1000000000);
        }
        it.both("hottest: ", 5, 0, sign > 0 ? -1000 : 200000, 1, 1000000);
        for (int k = 0; k < 4; k++) {
            it.both("hottest: ", 8, 300);
            it.compareState("hottest " + sign + ": ");
        }
        it.both("hottest: ", 4, 0, 0, 100000, sign * 1000000000);
        it.both("hottest: ", 5, 0, sign > 0 ? -1000 : 200000, 999999, 1000000);
        it.both("hottest: ", 3, 0, 1, 99999);
        it.compareState("hottest " + sign + ": ");
        it.both("hottest: ", 8, 2);
        it.compareState("hottest " + sign + ": ");
        it.both("hottest: ", 2, 0, 50000, 33333, 7);
        it.both("hottest: ", 2, 1, 50000, 33333, 7);
        it.compareState("hottest " + sign + ": ");
    }

    private void call(String where) {
        int which = tanks == 0 || (tanks < 4 && random.nextInt(30) == 0) ? 0 : weighted();
        int[] a = arguments(which);
        if (random.nextInt(12) == 0) {
            a[random.nextInt(a.length)] = EDGES[random.nextInt(EDGES.length)];
        }
        both(where, which, a);
    }

    private int weighted() {
        // Runs of one kind in four are mostly charges, small ones: in them the rows come to be full.
        int r = random.nextInt(kind == 2 && random.nextInt(20) != 0 ? 48 : 100);
        if (r < 3) {
            return 1;
        }
        if (r < 48) {
            return 2;
        }
        if (r < 56) {
            return 3;
        }
        if (r < 70) {
            return 4;
        }
        return r < 72 ? 0 : r < 74 ? 5 : r < 77 ? 6 : r < 87 ? 7 : r < 90 ? 8 : 9 + random.nextInt(5);
    }

    private int[] arguments(int which) {
        int t = tanks == 0 ? 0 : random.nextInt(tanks);
        int full = tanks == 0 ? 10 : volumes[t];
        int from = random.nextInt(full);
        int to = from + 1 + random.nextInt(full - from);
        int low = temperature();
        switch (which) {
            case 0:
                return new int[] {kind == 3 ? 10 + random.nextInt(99991) : 10 + random.nextInt(200), temperature()};
            case 1:
                return new int[] {temperature()};
            case 2:
                if (tanks == 0) {
                    return new int[] {t, from, 1, low};
                }
                return fitting(t, full);
            case 3:
                return new int[] {t, random.nextInt(4), 1 + random.nextInt(full)};
            case 4:
                return new int[] {t, from, to, kind == 3 ? random.nextInt(2000000001) - 1000000000
                    : random.nextInt(2001) - 1000};
            case 5:
                int below = 1 + random.nextInt(kind == 3 ? 1000000 : 300);
                return new int[] {t, temperature(), random.nextInt(1 + below / (1 + random.nextInt(200))), below};
            case 6:
                return new int[] {t, from, to, random.nextInt(4) == 0 ? 0 : random.nextInt(kind == 3 ? 10000001 : 3000),
                    random.nextInt(full), low, low + random.nextInt(20)};
            case 7:
                return new int[] {t, random.nextInt(random.nextBoolean() ? 60 : 1440), random.nextInt(3) == 0 ? 0
                    : random.nextInt(1 + full / (1 + random.nextInt(9)))};
            case 8:
                return new int[] {1 + random.nextInt(random.nextInt(6) == 0 ? 300 : 20)};
            case 9:
                return new int[] {t};
            case 10:
                return new int[] {t, random.nextInt(42), random.nextInt(2)};
            case 11:
                return new int[] {t, random.nextInt(full)};
            case 12:
                return new int[] {t, temperature()};
            default:
                return new int[] {t, random.nextInt(7)};
        }
    }

    /** Mostly where it is as warm as what comes in, so that rows grow long; else anywhere. */
    private int[] fitting(int t, int full) {
        int warmth = temperature();
        int height = random.nextInt(8) == 0 ? random.nextInt(full + 1) : full - (int) plain.warm(t, warmth);
        int v = 1 + random.nextInt(random.nextInt(kind == 2 ? 300 : 30) == 0 ? full : 1 + full / 100);
        return new int[] {t, height, v, warmth};
    }

    private int temperature() {
        switch (kind) {
            case 0:
                return random.nextInt(11) - 5;
            case 1:
                return random.nextInt(1000);
            default:
                return random.nextInt(201001) - 1000;
        }
    }

    private void both(String where, int which, int... a) {
        String call = where + NAMES[which] + Arrays.toString(a);
        long[] got = answer(which, a, true);
        long[] want = answer(which, a, false);
        checks.due(call + " throws (0 nothing, 1 argument, 2 state, 3 other)", got[0], want[0]);
        checks.due(call, got[1], want[1]);
        if (want[0] != 0) {
            refused++;
        } else if (which == 0) {
            volumes[tanks++] = a[0];
        }
    }

    private long[] answer(int which, int[] a, boolean ofReal) {
        if (a.length != ARGUMENTS[which]) {
            throw new AssertionError(NAMES[which]);
        }
        try {
            return new long[] {0, ofReal ? ofReal(which, a) : ofPlain(which, a)};
        } catch (RuntimeException e) {
            int kindOfIt = e.getClass() == IllegalArgumentException.class ? 1
                : e.getClass() == IllegalStateException.class ? 2 : 3;
            return new long[] {kindOfIt, 0};
        }
    }

    private long ofReal(int which, int[] a) {
        switch (which) {
            case 0: return real.tank(a[0], a[1]);
            case 1: return real.cold(a[0]);
            case 2: return real.charge(a[0], a[1], a[2], a[3]);
            case 3: return real.round(a[0], a[1], a[2]);
            case 4: return real.heat(a[0], a[1], a[2], a[3]);
            case 5: real.loses(a[0], a[1], a[2], a[3]); return 0;
            case 6: real.rod(a[0], a[1], a[2], a[3], a[4], a[5], a[6]); return 0;
            case 7: return real.draws(a[0], a[1], a[2]);
            case 8: return real.run(a[0]);
            case 9: return real.layers(a[0]);
            case 10: return real.layer(a[0], a[1], a[2]);
            case 11: return real.sensor(a[0], a[1]);
            case 12: return real.warm(a[0], a[1]);
            default: return real.told(a[0], a[1]);
        }
    }

    private long ofPlain(int which, int[] a) {
        switch (which) {
            case 0: return plain.tank(a[0], a[1]);
            case 1: return plain.cold(a[0]);
            case 2: return plain.charge(a[0], a[1], a[2], a[3]);
            case 3: return plain.round(a[0], a[1], a[2]);
            case 4: return plain.heat(a[0], a[1], a[2], a[3]);
            case 5: plain.loses(a[0], a[1], a[2], a[3]); return 0;
            case 6: plain.rod(a[0], a[1], a[2], a[3], a[4], a[5], a[6]); return 0;
            case 7: return plain.draws(a[0], a[1], a[2]);
            case 8: return plain.run(a[0]);
            case 9: return plain.layers(a[0]);
            case 10: return plain.layer(a[0], a[1], a[2]);
            case 11: return plain.sensor(a[0], a[1]);
            case 12: return plain.warm(a[0], a[1]);
            default: return plain.told(a[0], a[1]);
        }
    }

    /** What only tells changes nothing, so it may be asked between two calls of a run, and is not counted there. */
    private int compareState(String where) {
        int most = 0;
        for (int t = 0; t < tanks; t++) {
            int rows = real.layers(t);
            most = Math.max(most, rows);
            checks.due(where + "layers(" + t + ")", rows, plain.layers(t));
            for (int k = 0; k < rows && k < plain.layers(t); k++) {
                checks.due(where + "volume of layer " + k + " of tank " + t, real.layer(t, k, 0), plain.layer(t, k, 0));
                checks.due(where + "heat of layer " + k + " of tank " + t, real.layer(t, k, 1), plain.layer(t, k, 1));
            }
            for (int what = 0; what <= 6; what++) {
                checks.due(where + "told(" + t + ", " + what + ")", real.told(t, what), plain.told(t, what));
            }
        }
        return most;
    }
}
