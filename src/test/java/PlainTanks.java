import java.math.BigInteger;
import java.util.ArrayList;
import java.util.List;

/**
 * The document once more, in its own words and order, with lists and numbers without bounds: what
 * TankLayers answers is held against it. It shares no way of doing things with TankLayers.
 */
final class PlainTanks {
    record Layer(int volume, BigInteger heat) {
        boolean asWarmAs(Layer other) {
            return heat.multiply(big(other.volume)).compareTo(other.heat.multiply(big(volume))) >= 0;
        }

        Layer and(Layer other) {
            return new Layer(volume + other.volume, heat.add(other.heat));
        }
    }

    static final class Tank {
        int volume;
        List<Layer> row = new ArrayList<>();
        int ambient;
        int above = 0;
        int below = 1;
        int[] rod = null;
        boolean on = false;
        int[] day = new int[1440];
        BigInteger[] told = new BigInteger[7];

        Tank() {
            for (int k = 0; k < told.length; k++) {
                told[k] = BigInteger.ZERO;
            }
        }

        void count(int what, BigInteger more) {
            told[what] = told[what].add(more);
        }
    }

    private final List<Tank> tanks = new ArrayList<>();
    private int cold = 0;
    private int time = 0;

    static BigInteger big(long number) {
        return BigInteger.valueOf(number);
    }

    static BigInteger down(BigInteger amount, BigInteger by) {
        BigInteger[] both = amount.divideAndRemainder(by);
        return both[1].signum() < 0 ? both[0].subtract(BigInteger.ONE) : both[0];
    }

    static void legal(boolean is) {
        if (!is) {
            throw new IllegalArgumentException();
        }
    }

    static boolean isTemperature(int t) {
        return -1000 <= t && t <= 200000;
    }

    Tank find(int tank) {
        legal(0 <= tank && tank < tanks.size());
        return tanks.get(tank);
    }

    static int cut(Tank t, int height) {
        int bottom = 0;
        for (int k = 0; k < t.row.size(); k++) {
            Layer it = t.row.get(k);
            if (bottom == height) {
                return k;
            }
            int within = height - bottom;
            if (within > 0 && within < it.volume()) {
                BigInteger lower = down(it.heat().multiply(big(within)), big(it.volume()));
                t.row.set(k, new Layer(within, lower));
                t.row.add(k + 1, new Layer(it.volume() - within, it.heat().subtract(lower)));
                return k + 1;
            }
            bottom += it.volume();
        }
        return t.row.size();
    }

    /** Looks from above, and begins again after each joining: the order must not matter. */
    static void mix(Tank t) {
        boolean again = true;
        while (again) {
            again = false;
            for (int k = t.row.size() - 2; k >= 0 && !again; k--) {
                if (t.row.get(k).asWarmAs(t.row.get(k + 1))) {
                    t.row.set(k, t.row.get(k).and(t.row.remove(k + 1)));
                    again = true;
                }
            }
        }
        while (t.row.size() > 40) {
            t.row.set(0, t.row.get(0).and(t.row.remove(1)));
        }
    }

    static BigInteger takeAbove(Tank t, int v) {
        int border = cut(t, t.volume - v);
        BigInteger sum = BigInteger.ZERO;
        while (t.row.size() > border) {
            sum = sum.add(t.row.remove(border).heat());
        }
        return sum;
    }

    static BigInteger takeBelow(Tank t, int v) {
        int border = cut(t, v);
        BigInteger sum = BigInteger.ZERO;
        for (int k = 0; k < border; k++) {
            sum = sum.add(t.row.remove(0).heat());
        }
        return sum;
    }

    static void in(Tank t, int height, int v, BigInteger heat) {
        t.row.add(cut(t, height), new Layer(v, heat));
        mix(t);
    }

    static BigInteger exchange(Tank t, int height, int v, int temperature) {
        BigInteger taken = takeAbove(t, v);
        in(t, height < t.volume - v ? height : t.volume - v, v, big(v).multiply(big(temperature)));
        return taken;
    }

    static void heating(Tank t, int from, int to, int heat) {
        int first = cut(t, from);
        int end = cut(t, to);
        BigInteger left = big(heat);
        for (int k = first; k < end; k++) {
            Layer it = t.row.get(k);
            BigInteger gets = down(big(heat).multiply(big(it.volume())), big(to - from));
            left = left.subtract(gets);
            t.row.set(k, new Layer(it.volume(), it.heat().add(gets)));
        }
        Layer uppermost = t.row.get(end - 1);
        t.row.set(end - 1, new Layer(uppermost.volume(), uppermost.heat().add(left)));
        mix(t);
    }

    static BigInteger has(Tank t, int height) {
        int top = t.volume;
        for (int k = t.row.size() - 1; k >= 0; k--) {
            Layer it = t.row.get(k);
            top -= it.volume();
            if (height >= top) {
                return down(it.heat(), big(it.volume()));
            }
        }
        throw new AssertionError("no layer at height " + height);
    }

    void minute() {
        time++;
        for (Tank t : tanks) {
            int v = t.day[time % 1440];
            if (v > 0) {
                t.count(1, big(v));
                t.count(2, exchange(t, 0, v, cold));
            }
            if (t.rod != null) {
                BigInteger now = has(t, t.rod[3]);
                if (!t.on && now.compareTo(big(t.rod[4])) < 0) {
                    t.on = true;
                } else if (t.on && now.compareTo(big(t.rod[5])) >= 0) {
                    t.on = false;
                }
                if (t.on) {
                    heating(t, t.rod[0], t.rod[1], t.rod[2]);
                    t.count(3, big(t.rod[2]));
                    t.count(5, BigInteger.ONE);
                }
            }
            for (int k = 0; k < t.row.size(); k++) {
                Layer it = t.row.get(k);
                BigInteger over = it.heat().subtract(big(it.volume()).multiply(big(t.ambient)));
                BigInteger less = down(over.multiply(big(t.above)), big(t.below));
                t.count(4, less);
                t.row.set(k, new Layer(it.volume(), it.heat().subtract(less)));
            }
            mix(t);
        }
    }

    long tank(int volume, int temperature) {
        legal(10 <= volume && volume <= 100000 && isTemperature(temperature));
        if (tanks.size() == 4) {
            throw new IllegalStateException();
        }
        Tank t = new Tank();
        t.volume = volume;
        t.row.add(new Layer(volume, big(volume).multiply(big(temperature))));
        tanks.add(t);
        return tanks.size() - 1;
    }

    long cold(int temperature) {
        legal(isTemperature(temperature));
        int was = cold;
        cold = temperature;
        return was;
    }

    long charge(int tank, int height, int v, int temperature) {
        Tank t = find(tank);
        legal(0 <= height && height <= t.volume && 1 <= v && v <= t.volume && isTemperature(temperature));
        return exchange(t, height, v, temperature).longValueExact();
    }

    long round(int tank, int other, int v) {
        Tank t = find(tank);
        Tank o = find(other);
        legal(t != o && 1 <= v && v <= t.volume && v <= o.volume);
        BigInteger over = takeAbove(t, v);
        BigInteger came = takeBelow(o, v);
        in(o, o.volume - v, v, over);
        in(t, 0, v, came);
        return over.subtract(came).longValueExact();
    }

    long heat(int tank, int from, int to, int heat) {
        Tank t = find(tank);
        legal(0 <= from && from < to && to <= t.volume && -1000000000 <= heat && heat <= 1000000000);
        heating(t, from, to, heat);
        return t.row.size();
    }

    void loses(int tank, int ambient, int above, int below) {
        Tank t = find(tank);
        legal(isTemperature(ambient) && 1 <= below && below <= 1000000 && 0 <= above && above <= below);
        t.ambient = ambient;
        t.above = above;
        t.below = below;
    }

    void rod(int tank, int from, int to, int heat, int sensor, int low, int high) {
        Tank t = find(tank);
        legal(0 <= from && from < to && to <= t.volume && 0 <= heat && heat <= 10000000);
        legal(0 <= sensor && sensor < t.volume && isTemperature(low) && isTemperature(high) && low <= high);
        t.rod = heat == 0 ? null : new int[] {from, to, heat, sensor, low, high};
        t.on = false;
    }

    long draws(int tank, int minute, int v) {
        Tank t = find(tank);
        legal(0 <= minute && minute < 1440 && 0 <= v && v <= t.volume);
        int was = t.day[minute];
        t.day[minute] = v;
        int with = 0;
        for (int each : t.day) {
            with += each > 0 ? 1 : 0;
        }
        if (with > 40) {
            t.day[minute] = was;
            throw new IllegalStateException();
        }
        return was;
    }

    long run(int n) {
        legal(1 <= n && n <= 300);
        if (time + n > 5000) {
            throw new IllegalStateException();
        }
        for (int k = 0; k < n; k++) {
            minute();
        }
        return time;
    }

    long layers(int tank) {
        return find(tank).row.size();
    }

    long layer(int tank, int k, int what) {
        Tank t = find(tank);
        legal(0 <= k && k < t.row.size() && 0 <= what && what <= 1);
        return what == 0 ? t.row.get(k).volume() : t.row.get(k).heat().longValueExact();
    }

    long sensor(int tank, int height) {
        Tank t = find(tank);
        legal(0 <= height && height < t.volume);
        return has(t, height).longValueExact();
    }

    long warm(int tank, int temperature) {
        Tank t = find(tank);
        legal(isTemperature(temperature));
        long parts = 0;
        for (Layer it : t.row) {
            parts += it.asWarmAs(new Layer(1, big(temperature))) ? it.volume() : 0;
        }
        return parts;
    }

    long told(int tank, int what) {
        Tank t = find(tank);
        legal(0 <= what && what <= 6);
        if (what == 0) {
            BigInteger sum = BigInteger.ZERO;
            for (Layer it : t.row) {
                sum = sum.add(it.heat());
            }
            return sum.longValueExact();
        }
        return what == 6 ? (t.on ? 1 : 0) : t.told[what].longValueExact();
    }
}
