/**
 * Hot water in tanks: layers that lie on one another, warm above cold. Volumes are whole parts,
 * heats whole numbers; every division rounds down, and what it leaves over goes to a layer again.
 *
 * <p>Nothing here overflows within the 512 calls that are promised: the water of an object holds
 * less than 10^12 of heat, above 0 or below, and no factor that it is multiplied by is above 10^6.
 */
public final class TankLayers {
    public static final int NONE = -1;

    private static final int MOST_TANKS = 4;
    private static final int MOST_LAYERS = 40;
    private static final int MOST_DRAWS = 40;

    // Before it mixes a full row can grow by two: by two cuts, or by a cut and what comes in there.
    private static final int ROOM_FOR_LAYERS = MOST_LAYERS + 2;

    private static final int LEAST_VOLUME = 10;
    private static final int MOST_VOLUME = 100000;
    private static final int LEAST_TEMPERATURE = -1000;
    private static final int MOST_TEMPERATURE = 200000;
    private static final int MOST_HEATING = 1000000000;
    private static final int MOST_ROD_HEAT = 10000000;
    private static final int MOST_BELOW = 1000000;
    private static final int MINUTES_OF_A_DAY = 1440;
    private static final int MOST_MINUTES_OF_A_RUN = 300;
    private static final int LAST_TIME = 5000;

    private final Tank[] tanks;
    private int tankCount;
    private int coldTemperature;
    private int time;

    public TankLayers() {
        tanks = new Tank[MOST_TANKS];
        tankCount = 0;
        coldTemperature = 0;
        time = 0;
    }

    public int tank(int volume, int temperature) throws IllegalArgumentException, IllegalStateException {
        requireWithin(volume, LEAST_VOLUME, MOST_VOLUME);
        requireTemperature(temperature);
        if (tankCount < 0 || tankCount >= tanks.length) {
            throw new IllegalStateException("there are 4 tanks");
        }
        int number = tankCount;
        tanks[number] = new Tank(volume, temperature);
        tankCount = number + 1;
        return number;
    }

    public int cold(int temperature) throws IllegalArgumentException {
        requireTemperature(temperature);
        int before = coldTemperature;
        coldTemperature = temperature;
        return before;
    }

    // ---- water

    public long charge(int tank, int height, int v, int temperature) throws IllegalArgumentException {
        Water water = tankNumbered(tank).water;
        requireWithin(height, 0, water.full);
        requireWithin(v, 1, water.full);
        requireTemperature(temperature);
        return water.exchange(height, v, (long) v * temperature);
    }

    public long round(int tank, int other, int v) throws IllegalArgumentException {
        Water first = tankNumbered(tank).water;
        Water second = tankNumbered(other).water;
        if (tank == other) {
            throw new IllegalArgumentException("both tanks are one");
        }
        requireWithin(v, 1, Math.min(first.full, second.full));
        long over = first.takeFromAbove(v);
        long back = second.takeFromBelow(v);
        second.comeIn(second.full - v, v, over);
        first.comeIn(0, v, back);
        return over - back;
    }

    public int heat(int tank, int from, int to, int heat) throws IllegalArgumentException {
        Water water = tankNumbered(tank).water;
        requireSpan(from, to, water.full);
        requireWithin(heat, -MOST_HEATING, MOST_HEATING);
        water.heatBetween(from, to, heat);
        return water.count;
    }

    public void loses(int tank, int ambient, int above, int below) throws IllegalArgumentException {
        Loss loss = tankNumbered(tank).loss;
        requireTemperature(ambient);
        requireWithin(below, 1, MOST_BELOW);
        requireWithin(above, 0, below);
        loss.ambient = ambient;
        loss.above = above;
        loss.below = below;
    }

    public void rod(int tank, int from, int to, int heat, int sensor, int low, int high)
            throws IllegalArgumentException {
        Tank owner = tankNumbered(tank);
        requireSpan(from, to, owner.water.full);
        requireWithin(heat, 0, MOST_ROD_HEAT);
        requireWithin(sensor, 0, owner.water.full - 1);
        requireTemperature(low);
        requireTemperature(high);
        if (low > high) {
            throw new IllegalArgumentException("low is above high");
        }
        owner.rod.place(from, to, heat);
        owner.rod.obey(sensor, low, high);
    }

    public int draws(int tank, int minute, int v) throws IllegalArgumentException, IllegalStateException {
        Tank owner = tankNumbered(tank);
        requireWithin(minute, 0, MINUTES_OF_A_DAY - 1);
        requireWithin(v, 0, owner.water.full);
        Timetable timetable = owner.timetable;
        int before = timetable.partsAt(minute);
        if (before == 0 && v > 0 && timetable.isFull()) {
            throw new IllegalStateException("there are 40 minutes with a draw");
        }
        timetable.write(minute, v);
        return before;
    }

    public int run(int n) throws IllegalArgumentException, IllegalStateException {
        requireWithin(n, 1, MOST_MINUTES_OF_A_RUN);
        if (time + n > LAST_TIME) {
            throw new IllegalStateException("the time would be above 5000");
        }
        for (int k = 0; k < n; k++) {
            time++;
            int minute = Math.floorMod(time, MINUTES_OF_A_DAY);
            for (int t = 0; t < tanks.length; t++) {
                Tank each = tanks[t];
                if (each != null) {
                    each.passMinute(minute, coldTemperature);
                }
            }
        }
        return time;
    }

    // ---- what is told

    public int layers(int tank) throws IllegalArgumentException {
        return tankNumbered(tank).water.count;
    }

    public long layer(int tank, int k, int what) throws IllegalArgumentException {
        Water water = tankNumbered(tank).water;
        requireWithin(k, 0, water.count - 1);
        requireWithin(what, 0, 1);
        return what == 0 ? water.volumes[k] : water.heats[k];
    }

    public long sensor(int tank, int height) throws IllegalArgumentException {
        Water water = tankNumbered(tank).water;
        requireWithin(height, 0, water.full - 1);
        return water.temperatureAt(height);
    }

    public int warm(int tank, int temperature) throws IllegalArgumentException {
        Water water = tankNumbered(tank).water;
        requireTemperature(temperature);
        return water.partsAsWarmAs(temperature);
    }

    public long told(int tank, int what) throws IllegalArgumentException {
        Tank owner = tankNumbered(tank);
        requireWithin(what, 0, 6);
        switch (what) {
            case 0:
                return owner.water.heatInAll();
            case 1:
                return owner.drawnParts;
            case 2:
                return owner.drawnHeat;
            case 3:
                return owner.rod.heatGiven;
            case 4:
                return owner.loss.heatLost;
            case 5:
                return owner.rod.minutesOn;
            default:
                return owner.rod.on ? 1 : 0;
        }
    }

    private Tank tankNumbered(int number) {
        if (number < 0 || number >= tanks.length) {
            throw new IllegalArgumentException("there is no such tank");
        }
        Tank found = tanks[number];
        if (found == null) {
            throw new IllegalArgumentException("there is no such tank");
        }
        return found;
    }

    private static void requireWithin(int number, int least, int most) {
        if (number < least || number > most) {
            throw new IllegalArgumentException("a number is out of its bounds");
        }
    }

    private static void requireTemperature(int temperature) {
        requireWithin(temperature, LEAST_TEMPERATURE, MOST_TEMPERATURE);
    }

    private static void requireSpan(int from, int to, int full) {
        requireWithin(from, 0, full);
        requireWithin(to, 0, full);
        if (from >= to) {
            throw new IllegalArgumentException("from is not below to");
        }
    }

    private static long shareOf(long amount, long part, long whole) {
        if (whole <= 0) {
            return 0;
        }
        return Math.floorDiv(amount * part, whole);
    }

    /** A tank: its water and what happens to it in each minute. */
    private static final class Tank {
        final Water water;
        final Rod rod;
        final Loss loss;
        final Timetable timetable;
        long drawnParts;
        long drawnHeat;

        Tank(int volume, int temperature) {
            water = new Water(volume, temperature);
            rod = new Rod();
            loss = new Loss();
            timetable = new Timetable();
        }

        void passMinute(int minute, int coldTemperature) {
            int v = timetable.partsAt(minute);
            if (v > 0) {
                drawnHeat += water.exchange(0, v, (long) v * coldTemperature);
                drawnParts += v;
            }
            rod.takeTurn(water);
            loss.coolDown(water);
        }
    }

    /** A row of layers, from below to above; between two calls it is mixed and has its full volume. */
    private static final class Water {
        final int full;
        final int[] volumes;
        final long[] heats;
        int count;

        Water(int volume, int temperature) {
            full = volume;
            volumes = new int[ROOM_FOR_LAYERS];
            heats = new long[ROOM_FOR_LAYERS];
            volumes[0] = volume;
            heats[0] = (long) volume * temperature;
            count = 1;
        }

        long exchange(int height, int v, long heat) {
            long taken = takeFromAbove(v);
            comeIn(Math.min(height, full - v), v, heat);
            return taken;
        }

        /** Leaves the row unmixed: a cut's rounding must not join layers before something comes in. */
        long takeFromAbove(int v) {
            int first = cutAt(full - v);
            long taken = heatOfLayers(first, count);
            count = first;
            return taken;
        }

        /** Leaves the row unmixed, as takeFromAbove does. */
        long takeFromBelow(int v) {
            int gone = cutAt(v);
            long taken = heatOfLayers(0, gone);
            dropLowest(gone);
            return taken;
        }

        void comeIn(int height, int v, long heat) {
            insertLayer(cutAt(height), v, heat);
            mix();
        }

        void heatBetween(int from, int to, int heat) {
            int first = cutAt(from);
            int end = cutAt(to);
            long left = heat;
            for (int k = first; k < end; k++) {
                long part = shareOf(heat, volumes[k], to - from);
                heats[k] += part;
                left -= part;
            }
            if (end > first) {
                heats[end - 1] += left;
            }
            mix();
        }

        long loseHeat(int ambient, int above, int below) {
            long lost = 0;
            for (int k = 0; k < count; k++) {
                long less = shareOf(heats[k] - (long) volumes[k] * ambient, above, below);
                heats[k] -= less;
                lost += less;
            }
            mix();
            return lost;
        }

        long temperatureAt(int height) {
            int top = 0;
            for (int k = 0; k < count; k++) {
                top += volumes[k];
                if (height < top) {
                    return shareOf(heats[k], 1, volumes[k]);
                }
            }
            return 0;
        }

        int partsAsWarmAs(int temperature) {
            int parts = 0;
            for (int k = 0; k < count; k++) {
                if (heats[k] >= (long) volumes[k] * temperature) {
                    parts += volumes[k];
                }
            }
            return parts;
        }

        long heatInAll() {
            return heatOfLayers(0, count);
        }

        private long heatOfLayers(int first, int end) {
            long sum = 0;
            for (int k = first; k < end; k++) {
                sum += heats[k];
            }
            return sum;
        }

        /** Makes the height a border of layers: the number of layers below it. */
        private int cutAt(int height) {
            int bottom = 0;
            int k = 0;
            while (k < count && bottom + volumes[k] <= height) {
                bottom += volumes[k];
                k++;
            }
            int lowerVolume = height - bottom;
            if (k >= count || lowerVolume <= 0) {
                return k;
            }
            long lowerHeat = shareOf(heats[k], lowerVolume, volumes[k]);
            volumes[k] -= lowerVolume;
            heats[k] -= lowerHeat;
            insertLayer(k, lowerVolume, lowerHeat);
            return k + 1;
        }

        private void insertLayer(int at, int volume, long heat) {
            if (at < 0 || at > count || count >= volumes.length) {
                return;
            }
            for (int k = count; k > at; k--) {
                volumes[k] = volumes[k - 1];
                heats[k] = heats[k - 1];
            }
            volumes[at] = volume;
            heats[at] = heat;
            count++;
        }

        /** The order of joining is free, so one pass upwards does, with the joined layers as a stack. */
        private void mix() {
            int kept = 0;
            for (int k = 0; k < count; k++) {
                volumes[kept] = volumes[k];
                heats[kept] = heats[k];
                kept++;
                while (kept >= 2 && isAsWarmAsNext(kept - 2)) {
                    volumes[kept - 2] += volumes[kept - 1];
                    heats[kept - 2] += heats[kept - 1];
                    kept--;
                }
            }
            count = kept;
            joinLowest(count - MOST_LAYERS);
        }

        private boolean isAsWarmAsNext(int k) {
            return heats[k] * volumes[k + 1] >= heats[k + 1] * volumes[k];
        }

        /** Joins so many layers, from below, into the one above them. */
        private void joinLowest(int extra) {
            if (extra <= 0 || extra >= count) {
                return;
            }
            for (int k = 0; k < extra; k++) {
                volumes[extra] += volumes[k];
                heats[extra] += heats[k];
            }
            dropLowest(extra);
        }

        private void dropLowest(int gone) {
            if (gone <= 0 || gone > count) {
                return;
            }
            for (int k = gone; k < count; k++) {
                volumes[k - gone] = volumes[k];
                heats[k - gone] = heats[k];
            }
            count -= gone;
        }
    }

    /** A rod with its sensor, and what it did under all its settings. */
    private static final class Rod {
        int from;
        int to;
        int heatOfMinute;
        int sensorHeight;
        int low;
        int high;
        boolean on;
        long heatGiven;
        int minutesOn;

        void place(int lowerHeight, int upperHeight, int heat) {
            from = lowerHeight;
            to = upperHeight;
            heatOfMinute = heat;
        }

        void obey(int height, int lowTemperature, int highTemperature) {
            sensorHeight = height;
            low = lowTemperature;
            high = highTemperature;
            on = false;
        }

        void takeTurn(Water water) {
            // Without heat there is no rod: it is never on, and cuts no layer.
            if (heatOfMinute == 0) {
                return;
            }
            long measured = water.temperatureAt(sensorHeight);
            if (measured < low) {
                on = true;
            } else if (measured >= high) {
                on = false;
            }
            if (on) {
                water.heatBetween(from, to, heatOfMinute);
                heatGiven += heatOfMinute;
                minutesOn++;
            }
        }
    }

    /** A tank's loss in each minute; at first nothing of 1. */
    private static final class Loss {
        int ambient;
        int above;
        int below;
        long heatLost;

        Loss() {
            below = 1;
        }

        void coolDown(Water water) {
            if (above > 0) {
                heatLost += water.loseHeat(ambient, above, below);
            }
        }
    }

    /** The minutes of the day with a draw of a tank, in no order. */
    private static final class Timetable {
        final int[] minutes;
        final int[] parts;
        int count;

        Timetable() {
            minutes = new int[MOST_DRAWS];
            parts = new int[MOST_DRAWS];
        }

        boolean isFull() {
            return count >= minutes.length;
        }

        int partsAt(int minute) {
            int k = placeOf(minute);
            return k == NONE ? 0 : parts[k];
        }

        void write(int minute, int v) {
            int k = placeOf(minute);
            if (k != NONE && v > 0) {
                parts[k] = v;
            } else if (k != NONE) {
                removePlace(k);
            } else if (v > 0 && !isFull()) {
                minutes[count] = minute;
                parts[count] = v;
                count++;
            }
        }

        private int placeOf(int minute) {
            for (int k = 0; k < count; k++) {
                if (minutes[k] == minute) {
                    return k;
                }
            }
            return NONE;
        }

        private void removePlace(int k) {
            count--;
            minutes[k] = minutes[count];
            parts[k] = parts[count];
        }
    }
}
