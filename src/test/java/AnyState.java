import java.util.Random;

/**
 * Rule 7: no call throws by itself or fails to end, for any arguments in any state; so also far beyond
 * the 512 calls, where heats wrap around and answers are free, but volumes still have to add up.
 */
public final class AnyState {
    private static final Checks CHECKS = new Checks();
    private static final int[] NUMBERS = {Integer.MIN_VALUE, Integer.MIN_VALUE + 1, -1000000000, -1001, -1000, -1, 0, 1,
        2, 3, 4, 5, 6, 7, 9, 10, 11, 40, 41, 300, 1439, 1440, 99999, 100000, 200000, 1000000, 10000000, 1000000000,
        Integer.MAX_VALUE - 1, Integer.MAX_VALUE};

    public static void main(String[] args) {
        for (long seed = 0; seed < 30; seed++) {
            anyCalls(new Random(seed));
        }
        wrappedHeats();
        CHECKS.end();
    }

    private static void anyCalls(Random random) {
        TankLayers x = new TankLayers();
        int[] volumes = {100000, 10, 37, 2500};
        int made = random.nextInt(5);
        for (int t = 0; t < made; t++) {
            x.tank(volumes[t], 20 * t);
        }
        for (int k = 0; k < 6000; k++) {
            int which = random.nextInt(14);
            int[] a = new int[7];
            for (int j = 0; j < a.length; j++) {
                a[j] = random.nextInt(3) == 0 ? NUMBERS[random.nextInt(NUMBERS.length)] : random.nextInt(12) - 1;
            }
            onlyWrittenThrows(x, which, a);
        }
        for (int t = 0; t < made; t++) {
            isFull(x, t, volumes[t]);
        }
    }

    /** Each heat is the most that a call takes; the products of heats and volumes wrap many times. */
    private static void wrappedHeats() {
        TankLayers x = new TankLayers();
        x.tank(100000, 0);
        x.tank(100000, 0);
        x.rod(0, 0, 100000, 10000000, 0, 200000, 200000);
        x.loses(0, -1000, 999999, 1000000);
        x.draws(0, 7, 31);
        Random random = new Random(1);
        for (int k = 0; k < 400000; k++) {
            int at = random.nextInt(100000);
            x.heat(0, at, at + 1, 1000000000);
            if (k % 500 == 0) {
                x.charge(0, at, 1 + random.nextInt(9), 200000);
                x.round(k % 1000 == 0 ? 0 : 1, k % 1000 == 0 ? 1 : 0, 1 + at);
                x.warm(0, 200000);
                x.sensor(0, at);
                isFull(x, 0, 100000);
                isFull(x, 1, 100000);
            }
            if (k % 25000 == 0) {
                CHECKS.due("run", x.run(300), 300 * (k / 25000 + 1));
            }
        }
    }

    private static void isFull(TankLayers x, int tank, int volume) {
        int layers = x.layers(tank);
        long sum = 0;
        for (int k = 0; k < layers; k++) {
            CHECKS.due("a layer has 1 part or more", x.layer(tank, k, 0) >= 1 ? 1 : 0, 1);
            sum += x.layer(tank, k, 0);
        }
        CHECKS.due("layers are 1 .. 40", layers >= 1 && layers <= 40 ? 1 : 0, 1);
        CHECKS.due("the tank is full", sum, volume);
    }

    private static void onlyWrittenThrows(TankLayers x, int which, int[] a) {
        Class<?> got = null;
        try {
            call(x, which, a);
        } catch (RuntimeException e) {
            got = e.getClass();
        }
        boolean written = got == null || got == IllegalArgumentException.class
            || got == IllegalStateException.class && (which == 0 || which == 7 || which == 8);
        CHECKS.due("call " + which + " threw " + got, written ? 1 : 0, 1);
    }

    private static void call(TankLayers x, int which, int[] a) {
        switch (which) {
            case 0: x.tank(a[0], a[1]); break;
            case 1: x.cold(a[0]); break;
            case 2: x.charge(a[0], a[1], a[2], a[3]); break;
            case 3: x.round(a[0], a[1], a[2]); break;
            case 4: x.heat(a[0], a[1], a[2], a[3]); break;
            case 5: x.loses(a[0], a[1], a[2], a[3]); break;
            case 6: x.rod(a[0], a[1], a[2], a[3], a[4], a[5], a[6]); break;
            case 7: x.draws(a[0], a[1], a[2]); break;
            case 8: x.run(a[0]); break;
            case 9: x.layers(a[0]); break;
            case 10: x.layer(a[0], a[1], a[2]); break;
            case 11: x.sensor(a[0], a[1]); break;
            case 12: x.warm(a[0], a[1]); break;
            default: x.told(a[0], a[1]); break;
        }
    }
}
