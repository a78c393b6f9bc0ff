/**
 * Each sentence of the promises that names a boundary case, with a test of its own: the last value
 * that is allowed, the first that is not, what the document throws there, and that this changes nothing.
 */
public final class BoundariesOfPromises {
    private static final Checks CHECKS = new Checks();
    private static final Twins TWINS = new Twins(CHECKS);

    public static void main(String[] args) {
        newObject();
        tank();
        cold();
        charge();
        round();
        heat();
        loses();
        rod();
        draws();
        run();
        layersAndLayer();
        sensor();
        warm();
        told();
        CHECKS.end();
    }

    private static void sentence(String words) {
        CHECKS.sentence(words);
    }

    private static void due(String what, long got, long want) {
        CHECKS.due(what, got, want);
    }

    private static void row(String what, TankLayers x, int tank, long... want) {
        CHECKS.row(what, x, tank, want);
    }

    private static TankLayers tanks(int... volumesAndTemperatures) {
        TankLayers x = new TankLayers();
        for (int k = 0; k + 1 < volumesAndTemperatures.length; k += 2) {
            x.tank(volumesAndTemperatures[k], volumesAndTemperatures[k + 1]);
        }
        return x;
    }

    /** The house, whose time is 1, at another time. */
    private static TankLayers houseAt(int time) {
        return Twins.passed(Twins.house(), time - 1);
    }

    private static void newObject() {
        sentence("`NONE = -1`: There is none.");
        due("NONE", TankLayers.NONE, -1);

        sentence("`TankLayers()`: No tanks");
        Twins.Recipe none = TankLayers::new;
        TWINS.argument("charge", none, x -> x.charge(0, 0, 1, 1));
        TWINS.argument("round", none, x -> x.round(0, 1, 1));
        TWINS.argument("heat", none, x -> x.heat(0, 0, 1, 1));
        TWINS.argument("loses", none, x -> x.loses(0, 1, 1, 2));
        TWINS.argument("rod", none, x -> x.rod(0, 0, 1, 1, 0, 1, 1));
        TWINS.argument("draws", none, x -> x.draws(0, 1, 1));
        TWINS.argument("layers", none, x -> x.layers(0));
        TWINS.argument("layer", none, x -> x.layer(0, 0, 0));
        TWINS.argument("sensor", none, x -> x.sensor(0, 0));
        TWINS.argument("warm", none, x -> x.warm(0, 1));
        TWINS.argument("told", none, x -> x.told(0, 0));
        TankLayers x = new TankLayers();
        due("minutes pass without tanks", x.run(300), 300);
        due("the first one's number", x.tank(10, 1), 0);

        sentence("COLD is 0");
        due("what it was", new TankLayers().cold(5), 0);
        TankLayers drawn = tanks(10, 7);
        drawn.draws(0, 1, 4);
        drawn.run(1);
        row("what comes in", drawn, 0, 4, 0, 6, 42);
    }

    private static void tank() {
        sentence("A tank of one layer with a temperature: its number. Illegal argument");
        TWINS.bounds("volume", Twins::threeTanks, 10, 100000, (x, volume) -> x.tank(volume, 1));
        TWINS.temperatures("temperature", Twins::threeTanks, (x, temperature) -> x.tank(10, temperature));
        TankLayers x = new TankLayers();
        due("the least of both", x.tank(10, -1000), 0);
        due("the least and the most", x.tank(10, 200000), 1);
        due("the most and the least", x.tank(100000, -1000), 2);
        due("the most of both", x.tank(100000, 200000), 3);
        row("the least of both", x, 0, 10, -10000);
        row("the least and the most", x, 1, 10, 2000000);
        row("the most and the least", x, 2, 100000, -100000000);
        row("the most of both", x, 3, 100000, 20000000000L);

        sentence("tank: .. illegal state: there are 4");
        TWINS.taken("the fourth", Twins::threeTanks, y -> y.tank(10, 1));
        TWINS.state("the fifth", Twins::house, y -> y.tank(10, 1));
        CHECKS.state("the fifth", () -> x.tank(100000, 200000));
        CHECKS.state("and once more", () -> x.tank(10, -1000));
    }

    private static void cold() {
        sentence("COLD becomes a temperature: what it was. Illegal argument");
        TWINS.temperatures("cold", Twins::house, (x, temperature) -> x.cold(temperature));
        TankLayers x = new TankLayers();
        due("to the least", x.cold(-1000), 0);
        due("to the most", x.cold(200000), -1000);
        due("to what it is", x.cold(200000), 200000);
        due("back", x.cold(0), 200000);
    }

    private static void charge() {
        sentence("A CHARGE of v parts (1 .. V)");
        TWINS.bounds("v", Twins::house, 1, 20, (x, v) -> x.charge(0, 3, v, 7));
        TankLayers one = tanks(10, 5);
        due("one part", one.charge(0, 0, 1, 4), 5);
        row("one part", one, 0, 1, 4, 9, 45);
        TankLayers all = tanks(10, 5);
        due("all", all.charge(0, 0, 10, 4), 50);
        row("all", all, 0, 10, 40);
        TankLayers large = tanks(100000, 200000);
        due("all of the largest", large.charge(0, 100000, 100000, -1000), 20000000000L);
        row("all of the largest", large, 0, 100000, -100000000);

        sentence("A CHARGE .. with a temperature");
        TWINS.temperatures("temperature", Twins::house, (x, temperature) -> x.charge(0, 3, 5, temperature));
        TankLayers bounds = tanks(10, 5);
        bounds.charge(0, 0, 2, -1000);
        bounds.charge(0, 10, 2, 200000);
        row("the least and the most", bounds, 0, 2, -2000, 6, 30, 2, 400000);

        sentence("at a height (0 .. V): the heat that was taken. Illegal argument");
        TWINS.bounds("height", Twins::house, 0, 20, (x, height) -> x.charge(0, height, 3, 7));
        TankLayers heights = tanks(10, 5);
        due("at 0", heights.charge(0, 0, 1, 4), 5);
        due("at V", heights.charge(0, 10, 1, 6), 5);
        row("at both", heights, 0, 1, 4, 8, 40, 1, 6);
        TWINS.bounds("tank", Twins::house, 0, 3, (x, tank) -> x.charge(tank, 3, 5, 7));
    }

    private static void round() {
        sentence("v parts go round (1 .. the lesser V)");
        TWINS.bounds("from the lesser", Twins::house, 1, 20, (x, v) -> x.round(0, 1, v));
        TWINS.bounds("to the lesser", Twins::house, 1, 10, (x, v) -> x.round(1, 2, v));
        TWINS.bounds("both alike", () -> tanks(10, 5, 10, 7), 1, 10, (x, v) -> x.round(0, 1, v));
        TankLayers one = tanks(10, 5, 12, 3);
        due("one part", one.round(0, 1, 1), 5 - 3);
        row("one part, the one", one, 0, 1, 3, 9, 45);
        row("one part, the other", one, 1, 11, 33, 1, 5);
        TankLayers all = tanks(10, 5, 12, 3);
        due("all of the one", all.round(0, 1, 10), 50 - 30);
        row("all of the one, the one", all, 0, 10, 30);
        row("all of the one, the other", all, 1, 2, 6, 10, 50);
        TankLayers other = tanks(12, 5, 10, 3);
        due("all of the other", other.round(0, 1, 10), 50 - 30);
        row("all of the other, the one", other, 0, 10, 30, 2, 10);
        row("all of the other, the other", other, 1, 10, 50);
        TankLayers both = tanks(10, 5, 10, 3);
        due("all of both", both.round(1, 0, 10), 30 - 50);
        row("all of both, the one", both, 0, 10, 30);
        row("all of both, the other", both, 1, 10, 50);

        sentence("taken from above of one tank and from below of another one;"
            + " the first comes in above in the other one, the second below in the first one");
        TankLayers cold = tanks(10, 3, 10, 5);
        due("cold goes over", cold.round(0, 1, 4), 12 - 20);
        // 4:20 below 6:18 and 4:12 above 6:30 are one with these.
        row("warm came in below", cold, 0, 10, 38);
        row("cold came in above", cold, 1, 10, 42);
        TankLayers layers = tanks(10, 3, 10, 5);
        layers.charge(0, 10, 2, 9);
        layers.charge(1, 0, 2, 1);
        due("the warmest of the one, the coldest of the other", layers.round(0, 1, 2), 18 - 2);
        row("the coldest came in below", layers, 0, 2, 2, 8, 24);
        row("the warmest came in above", layers, 1, 8, 40, 2, 18);

        sentence("the heat that went over less that which came. Illegal argument");
        due("below 0", tanks(10, -1000, 10, 200000).round(0, 1, 10), -10000 - 2000000);
        due("none", tanks(10, 7, 10, 7).round(0, 1, 10), 0);
        due("the most", tanks(100000, 200000, 100000, -1000).round(0, 1, 100000), 20100000000L);
        TWINS.bounds("tank", Twins::house, 0, 3, (x, tank) -> x.round(tank, tank == 0 ? 1 : 0, 5));
        TWINS.bounds("other", Twins::house, 0, 3, (x, to) -> x.round(to == 0 ? 1 : 0, to, 5));

        sentence("round: .. Illegal argument: also if both are one");
        for (int k = 0; k <= 3; k++) {
            int tank = k;
            TWINS.argument("tank " + k, Twins::house, x -> x.round(tank, tank, 1));
        }
    }

    private static void heat() {
        sentence("HEATING from a height up to another one (0 .. V)");
        TWINS.bounds("from", Twins::house, 0, 19, (x, from) -> x.heat(0, from, 20, 7));
        TWINS.bounds("to", Twins::house, 1, 20, (x, to) -> x.heat(0, 0, to, 7));
        TWINS.argument("both too high", Twins::house, x -> x.heat(0, 20, 21, 7));
        TWINS.argument("both too low", Twins::house, x -> x.heat(0, -1, 0, 7));
        TankLayers whole = tanks(10, 5);
        due("from 0 to V", whole.heat(0, 0, 10, 7), 1);
        row("from 0 to V", whole, 0, 10, 57);
        TankLayers top = tanks(10, 5);
        due("from V - 1 to V", top.heat(0, 9, 10, 7), 2);
        row("from V - 1 to V", top, 0, 9, 45, 1, 12);
        TankLayers low = tanks(10, 5);
        due("from 0 to 1", low.heat(0, 0, 1, -7), 2);
        row("from 0 to 1", low, 0, 1, -2, 9, 45);

        sentence("with a heat (-10^9 .. 10^9): how many layers there are. Illegal argument");
        TWINS.bounds("heat", Twins::house, -1000000000, 1000000000, (x, heat) -> x.heat(0, 3, 8, heat));
        TWINS.bounds("tank", Twins::house, 0, 3, (x, tank) -> x.heat(tank, 3, 8, 7));
        TankLayers x = tanks(10, 5);
        due("the most", x.heat(0, 5, 10, 1000000000), 2);
        due("the least", x.heat(0, 0, 5, -1000000000), 2);
        row("the most and the least", x, 0, 5, -999999975, 5, 1000000025);
        due("none, and no cut within", x.heat(0, 5, 10, 0), 2);
        due("a layer more", x.heat(0, 9, 10, 1), 3);
        TankLayers again = tanks(10, 5);
        due("two", again.heat(0, 9, 10, 7), 2);
        due("still two", again.heat(0, 0, 9, 62), 2);
        due("one again", again.heat(0, 0, 9, 1), 1);

        sentence("heat: .. Illegal argument: also if from is not below to");
        int[][] spans = {{0, 0}, {7, 7}, {8, 7}, {20, 20}, {20, 0}, {1, 0}, {20, 19}};
        for (int[] span : spans) {
            TWINS.argument("from " + span[0] + " to " + span[1], Twins::house, y -> y.heat(0, span[0], span[1], 7));
        }
        TWINS.taken("from 6 to 7", Twins::house, y -> y.heat(0, 6, 7, 7));
    }

    private static void loses() {
        sentence("A tank has a loss in each minute from now on");
        TankLayers x = tanks(10, 8, 10, 8);
        x.loses(0, 0, 1, 2);
        row("not before a minute", x, 0, 10, 80);
        x.run(1);
        row("in a minute", x, 0, 10, 40);
        x.run(2);
        row("in each", x, 0, 10, 10);
        x.loses(0, 3, 1, 1);
        x.run(1);
        row("a new one instead", x, 0, 10, 30);
        due("lost by both", x.told(0, 4), 50);
        row("of no other tank", x, 1, 10, 80);

        sentence("(0 .. below of below, 1 .. 1000000; none at first). Illegal argument");
        TWINS.bounds("above", Twins::house, 0, 10, (y, above) -> y.loses(0, 77, above, 10));
        TWINS.bounds("above of 1", Twins::house, 0, 1, (y, above) -> y.loses(0, 77, above, 1));
        TWINS.bounds("above of a million", Twins::house, 0, 1000000, (y, above) -> y.loses(0, 77, above, 1000000));
        TWINS.bounds("below with none", Twins::house, 1, 1000000, (y, below) -> y.loses(0, 77, 0, below));
        TWINS.bounds("below with 1", Twins::house, 1, 1000000, (y, below) -> y.loses(0, 77, 1, below));
        TWINS.argument("1000001 of it", Twins::house, y -> y.loses(0, 77, 1000001, 1000001));
        TWINS.argument("-1 of -1", Twins::house, y -> y.loses(0, 77, -1, -1));
        TWINS.temperatures("ambient", Twins::house, (y, ambient) -> y.loses(0, ambient, 3, 4));
        TWINS.bounds("tank", Twins::house, 0, 3, (y, tank) -> y.loses(tank, 77, 3, 4));
        TankLayers none = tanks(10, 200000);
        none.run(300);
        row("none at first", none, 0, 10, 2000000);
        none.loses(0, -1000, 0, 1);
        none.run(300);
        row("0 of 1", none, 0, 10, 2000000);
        none.loses(0, -1000, 0, 1000000);
        none.run(300);
        row("0 of a million", none, 0, 10, 2000000);
        due("nothing is lost", none.told(0, 4), 0);
        none.loses(0, -1000, 1, 1000000);
        none.run(1);
        row("one millionth", none, 0, 10, 1999998);
        none.loses(0, -1000, 1000000, 1000000);
        none.run(1);
        row("all, down to the least ambient", none, 0, 10, -10000);
        none.loses(0, 200000, 1, 1);
        none.run(1);
        row("all, up to the most ambient", none, 0, 10, 2000000);
        none.loses(0, 0, 1, 2);
        none.loses(0, 0, 0, 2);
        none.run(1);
        row("none again", none, 0, 10, 2000000);
    }

    private static void rod() {
        sentence("A tank's rod heats between heights (0 .. V)");
        TWINS.bounds("from", Twins::house, 0, 19, (x, from) -> x.rod(0, from, 20, 7, 0, -900, -800));
        TWINS.bounds("to", Twins::house, 1, 20, (x, to) -> x.rod(0, 0, to, 7, 0, -900, -800));
        TWINS.argument("both too high", Twins::house, x -> x.rod(0, 20, 21, 7, 0, -900, -800));
        TWINS.argument("both too low", Twins::house, x -> x.rod(0, -1, 0, 7, 0, -900, -800));
        TWINS.bounds("tank", Twins::house, 0, 3, (x, tank) -> x.rod(tank, 1, 3, 7, 0, -900, -800));
        row("from 0 to V", heatedBy(0, 10, 7), 0, 10, 57);
        row("from V - 1 to V", heatedBy(9, 10, 7), 0, 9, 45, 1, 12);
        row("from 0 to 1", heatedBy(0, 1, 7), 0, 10, 57);

        sentence("with a heat (0 .. 10^7; 0: none)");
        TWINS.bounds("heat", Twins::house, 0, 10000000, (x, heat) -> x.rod(0, 1, 3, heat, 0, -900, -800));
        row("the most", heatedBy(0, 10, 10000000), 0, 10, 10000050);
        row("the least", heatedBy(9, 10, 1), 0, 9, 45, 1, 6);
        TankLayers none = tanks(10, 0);
        none.heat(0, 0, 10, 5);
        none.rod(0, 3, 8, 0, 0, 100, 200);
        none.run(300);
        row("none, so nothing is cut", none, 0, 10, 5);
        due("none gives nothing", none.told(0, 3), 0);
        due("none is on in no minute", none.told(0, 5), 0);
        due("none is not on", none.told(0, 6), 0);
        TankLayers gone = heatedBy(0, 10, 7);
        gone.rod(0, 0, 10, 0, 0, 6, 100);
        gone.run(1);
        row("none any more", gone, 0, 10, 57);

        sentence("by a sensor at a height (0 .. V - 1), LOW and HIGH");
        TWINS.bounds("sensor", Twins::house, 0, 19, (x, sensor) -> x.rod(0, 1, 3, 7, sensor, -900, -800));
        TWINS.bounds("sensor of 10", Twins::house, 0, 9, (x, sensor) -> x.rod(2, 1, 3, 7, sensor, -900, -800));
        TWINS.temperatures("low", Twins::house, (x, low) -> x.rod(1, 1, 3, 7, 29, low, 200000));
        TWINS.temperatures("high", Twins::house, (x, high) -> x.rod(1, 1, 3, 7, 29, -1000, high));
        due("at 0", onBySensorAt(0), 1);
        due("at V - 1", onBySensorAt(9), 0);

        sentence("It is OFF.");
        TankLayers off = tanks(10, 5);
        off.rod(0, 0, 10, 10, 0, 6, 100);
        due("at first", off.told(0, 6), 0);
        off.run(1);
        due("on", off.told(0, 6), 1);
        off.rod(0, 0, 10, 10, 0, 6, 100);
        due("by the same call again", off.told(0, 6), 0);
        off.run(1);
        due("as it has not less than LOW", off.told(0, 6), 0);
        row("and does not heat", off, 0, 10, 60);

        sentence("rod: .. Illegal argument: also if from is not below to, or low is above high");
        int[][] spans = {{0, 0}, {7, 7}, {8, 7}, {20, 20}, {20, 0}, {1, 0}, {20, 19}};
        for (int[] span : spans) {
            TWINS.argument("from " + span[0] + " to " + span[1], Twins::house,
                x -> x.rod(0, span[0], span[1], 7, 0, -900, -800));
        }
        TWINS.argument("without heat too", Twins::house, x -> x.rod(0, 7, 7, 0, 0, -900, -800));
        TWINS.taken("from 6 to 7", Twins::house, x -> x.rod(0, 6, 7, 7, 0, -900, -800));
        TWINS.argument("low is above high by 1", Twins::house, x -> x.rod(0, 1, 3, 7, 0, -800, -801));
        TWINS.argument("low is far above high", Twins::house, x -> x.rod(0, 1, 3, 7, 0, 200000, -1000));
        TWINS.argument("low is above high, without heat", Twins::house, x -> x.rod(1, 1, 3, 0, 0, 1, 0));
        TWINS.taken("low is high", Twins::house, x -> x.rod(0, 1, 3, 7, 0, -800, -800));
    }

    /** Ten parts at 5, after a minute with a rod that is on. */
    private static TankLayers heatedBy(int from, int to, int heat) {
        TankLayers x = tanks(10, 5);
        x.rod(0, from, to, heat, 0, 6, 100);
        x.run(1);
        due("given", x.told(0, 3), heat);
        return x;
    }

    /** Whether a rod is on where only the lowest part of ten is colder than LOW. */
    private static long onBySensorAt(int height) {
        TankLayers x = tanks(10, 5);
        x.charge(0, 0, 1, 4);
        x.rod(0, 0, 10, 7, height, 5, 100);
        x.run(1);
        return x.told(0, 6);
    }

    private static void draws() {
        sentence("So much is drawn of a tank at a minute of the day (0 .. 1439");
        TWINS.bounds("minute", Twins::house, 0, 1439, (x, minute) -> x.draws(0, minute, 3));
        TWINS.bounds("minute with nothing", Twins::house, 0, 1439, (x, minute) -> x.draws(0, minute, 0));
        TWINS.bounds("tank", Twins::house, 0, 3, (x, tank) -> x.draws(tank, 2, 3));
        TankLayers x = tanks(10, 5);
        due("at 0", x.draws(0, 0, 1), 0);
        due("at 1439", x.draws(0, 1439, 2), 0);
        Twins.passed(x, 1438);
        due("before 1439", x.told(0, 1), 0);
        x.run(1);
        due("at 1439", x.told(0, 1), 2);
        x.run(1);
        due("at 1440", x.told(0, 1), 3);

        sentence("v 0 .. V, 0: nothing): how much was. Illegal argument");
        TWINS.bounds("v", Twins::house, 0, 20, (y, v) -> y.draws(0, 2, v));
        TWINS.bounds("v of another", Twins::house, 0, 10, (y, v) -> y.draws(2, 2, v));
        TankLayers v = tanks(10, 5);
        due("all of it", v.draws(0, 1, 10), 0);
        due("one part instead", v.draws(0, 1, 1), 10);
        due("all of it again", v.draws(0, 1, 10), 1);
        due("one part", v.draws(0, 2, 1), 0);
        due("nothing where nothing was", v.draws(0, 3, 0), 0);
        due("nothing where nothing was, again", v.draws(0, 3, 7), 0);
        due("nothing any more", v.draws(0, 3, 0), 7);
        v.run(1);
        due("all is drawn", v.told(0, 2), 50);
        row("all is cold", v, 0, 10, 0);
        v.run(2);
        due("drawn in all", v.told(0, 1), 11);

        sentence("draws: .. illegal state: it would be the 41st minute with a draw of that tank");
        TWINS.taken("the 40th", () -> timetable(39), y -> y.draws(0, 0, 1));
        TWINS.state("the 41st", () -> timetable(40), y -> y.draws(0, 0, 1));
        TWINS.state("the 41st, with all", () -> timetable(40), y -> y.draws(0, 1439, 10));
        TWINS.taken("nothing is no draw", () -> timetable(40), y -> y.draws(0, 0, 0));
        TankLayers full = timetable(40);
        due("one that is there", full.draws(0, 41, 10), 1);
        due("the first that is there", full.draws(0, 2, 9), 1);
        due("of another tank", full.draws(1, 0, 1), 0);
        CHECKS.state("still the 41st", () -> full.draws(0, 0, 1));
        due("one that is there is no more", full.draws(0, 20, 0), 1);
        due("another one instead", full.draws(0, 1439, 4), 0);
        CHECKS.state("the 41st again", () -> full.draws(0, 20, 1));
        due("the new one is there", full.draws(0, 1439, 0), 4);
        for (int minute = 2; minute <= 41; minute++) {
            due("at " + minute, full.draws(0, minute, 0), minute == 2 ? 9 : minute == 41 ? 10 : minute == 20 ? 0 : 1);
        }
        for (int minute = 1400; minute <= 1439; minute++) {
            due("forty again, at " + minute, full.draws(0, minute, 1), 0);
        }
        CHECKS.state("the 41st once more", () -> full.draws(0, 2, 1));
    }

    /** Two tanks; so many minutes with a draw of one part of the first one, from 2 on. */
    private static TankLayers timetable(int draws) {
        TankLayers x = tanks(10, 5, 10, 5);
        for (int k = 0; k < draws; k++) {
            x.draws(0, 2 + k, 1);
        }
        return x;
    }

    private static void run() {
        sentence("n MINUTES: the TIME. Illegal argument: n is not 1 .. 300");
        TWINS.bounds("n", Twins::house, 1, 300, (x, n) -> x.run(n));
        TankLayers x = tanks(10, 5);
        x.rod(0, 0, 10, 1, 0, 200000, 200000);
        due("one", x.run(1), 1);
        due("one, as the rod counts", x.told(0, 5), 1);
        due("three hundred", x.run(300), 301);
        due("three hundred, as the rod counts", x.told(0, 5), 301);

        sentence("run: .. illegal state: it would be above 5000");
        TWINS.taken("5000 by 300", () -> houseAt(4700), y -> y.run(300));
        TWINS.state("5001 by 300", () -> houseAt(4701), y -> y.run(300));
        TWINS.taken("5000 by 1", () -> houseAt(4999), y -> y.run(1));
        TWINS.state("5001 by 2", () -> houseAt(4999), y -> y.run(2));
        TWINS.state("5001 by 1", () -> houseAt(5000), y -> y.run(1));
        TWINS.state("5300 by 300", () -> houseAt(5000), y -> y.run(300));
        TankLayers end = Twins.passed(tanks(10, 5), 4999);
        CHECKS.state("too many", () -> end.run(2));
        due("just enough", end.run(1), 5000);
        due("other calls are taken", end.charge(0, 0, 10, 1), 50);
    }

    private static void layersAndLayer() {
        sentence("How many layers a tank has. Illegal argument");
        TWINS.bounds("tank", Twins::house, 0, 3, (x, tank) -> x.layers(tank));
        due("the least", tanks(10, 5).layers(0), 1);
        TankLayers forty = tanks(50, 0);
        for (int k = 1; k <= 39; k++) {
            forty.charge(0, 50, 50 - k, 10 * k);
            due("after " + k, forty.layers(0), 1 + k);
        }
        forty.charge(0, 50, 1, 400);
        due("the most", forty.layers(0), 40);

        sentence("Of layer k, from below on: what = 0 its volume, 1 its heat");
        TWINS.bounds("what", Twins::house, 0, 1, (x, what) -> x.layer(2, 1, what));
        TWINS.bounds("tank", Twins::house, 0, 3, (x, tank) -> x.layer(tank, 0, 0));
        due("volume of the lowest", forty.layer(0, 0, 0), 2);
        due("heat of the lowest", forty.layer(0, 0, 1), 10);
        due("volume of the uppermost", forty.layer(0, 39, 0), 1);
        due("heat of the uppermost", forty.layer(0, 39, 1), 400);
        due("heat below 0", tanks(10, -1000).layer(0, 0, 1), -10000);

        sentence("layer: .. Illegal argument: also if there is none such");
        TWINS.bounds("of three", Twins::house, 0, 2, (x, k) -> x.layer(2, k, 1));
        TWINS.bounds("of one", () -> tanks(10, 5), 0, 0, (x, k) -> x.layer(0, k, 1));
        CHECKS.argument("of forty the 41st", () -> forty.layer(0, 40, 0));
        CHECKS.argument("of forty the one below the lowest", () -> forty.layer(0, -1, 0));
        forty.charge(0, 0, 50, 1);
        due("of one again", forty.layer(0, 0, 0), 50);
        CHECKS.argument("of one again the second", () -> forty.layer(0, 1, 0));
    }

    private static void sensor() {
        sentence("What a sensor at a height (0 .. V - 1) has. Illegal argument");
        TWINS.bounds("height", Twins::house, 0, 19, (x, height) -> x.sensor(0, height));
        TWINS.bounds("height of 10", Twins::house, 0, 9, (x, height) -> x.sensor(2, height));
        TWINS.bounds("tank", Twins::house, 0, 3, (x, tank) -> x.sensor(tank, 5));
        TWINS.bounds("height of the largest", () -> tanks(100000, 5), 0, 99999, (x, height) -> x.sensor(0, height));
        TankLayers x = tanks(10, 5);
        x.charge(0, 0, 1, 4);
        x.charge(0, 10, 1, 6);
        due("at 0", x.sensor(0, 0), 4);
        due("at 1", x.sensor(0, 1), 5);
        due("at V - 2", x.sensor(0, 8), 5);
        due("at V - 1", x.sensor(0, 9), 6);
    }

    private static void warm() {
        sentence("How many parts of a tank are as warm as a temperature, or warmer. Illegal argument");
        TWINS.temperatures("temperature", Twins::house, (x, temperature) -> x.warm(0, temperature));
        TWINS.bounds("tank", Twins::house, 0, 3, (x, tank) -> x.warm(tank, 5));
        TankLayers x = tanks(10, 5);
        x.charge(0, 0, 3, 4);
        due("as warm as the lowest", x.warm(0, 4), 10);
        due("warmer than the lowest", x.warm(0, 5), 7);
        due("warmer than all", x.warm(0, 6), 0);
        TankLayers fewer = tanks(10, 5);
        fewer.charge(0, 0, 3, 4);
        fewer.charge(0, 0, 10, 5);
        due("no layer that was", fewer.warm(0, 5), 10);
        x.heat(0, 3, 10, -1);
        due("not quite as warm", x.warm(0, 5), 0);
        x.heat(0, 0, 3, -13);
        due("a little less than 0", x.warm(0, 0), 7);
        due("a little more than -1", x.warm(0, -1), 10);
        due("the least", tanks(10, -1000).warm(0, -1000), 10);
        due("more than the least", tanks(10, -1000).warm(0, -999), 0);
        due("the most", tanks(100000, 200000).warm(0, 200000), 100000);
        due("less than the most", tanks(100000, 199999).warm(0, 200000), 0);
        TankLayers less = tanks(10, -1000);
        less.heat(0, 0, 10, -1);
        due("less than the least", less.warm(0, -1000), 0);
    }

    private static void told() {
        sentence("Of a tank: what = 0 its heat in all .. 6 whether it is (1). Illegal argument");
        TWINS.bounds("what", Twins::house, 0, 6, (x, what) -> x.told(0, what));
        for (int w = 0; w <= 6; w++) {
            int what = w;
            TWINS.bounds("tank with " + w, Twins::house, 0, 3, (x, tank) -> x.told(tank, what));
        }
        TankLayers x = tanks(100000, 200000);
        due("the most heat of a new one", x.told(0, 0), 20000000000L);
        due("the least heat of a new one", tanks(100000, -1000).told(0, 0), -100000000);

        sentence("1 what was drawn by the timetable, in parts, 2 the heat of this");
        x.charge(0, 0, 1, 0);
        due("no charge", x.told(0, 1), 0);
        due("no heat of a charge", x.told(0, 2), 0);
        x.charge(0, 0, 100000, 200000);
        for (int minute = 1; minute <= 40; minute++) {
            x.draws(0, minute, 100000);
        }
        x.cold(200000);
        x.run(40);
        due("more than an int has", x.told(0, 2), 40 * 20000000000L);
        due("parts", x.told(0, 1), 4000000);
        TankLayers below = tanks(10, -1000);
        below.draws(0, 1, 10);
        below.run(1);
        due("below 0", below.told(0, 2), -10000);

        sentence("3 the heat that its rod gave, 4 the heat that was lost, 5 in how many minutes its rod was on");
        TankLayers rod = tanks(10, -1000, 10, -1000);
        due("nothing given at first", rod.told(0, 3), 0);
        due("nothing lost at first", rod.told(0, 4), 0);
        due("no minute at first", rod.told(0, 5), 0);
        rod.heat(0, 0, 10, 500);
        due("heating is not the rod's", rod.told(0, 3), 0);
        rod.rod(0, 0, 10, 10000000, 0, 200000, 200000);
        rod.loses(0, -1000, 1, 1);
        rod.run(300);
        due("given, more than an int has", rod.told(0, 3), 3000000000L);
        due("lost, more than an int has", rod.told(0, 4), 3000000500L);
        due("minutes", rod.told(0, 5), 300);
        rod.rod(0, 0, 10, 0, 0, 0, 0);
        rod.loses(0, 200000, 1, 1);
        rod.run(1);
        due("given before stays", rod.told(0, 3), 3000000000L);
        due("minutes before stay", rod.told(0, 5), 300);
        due("less than nothing is lost where it grows warm", rod.told(0, 4), 3000000500L - 2010000);
        for (int what = 1; what <= 6; what++) {
            due("of the other tank " + what, rod.told(1, what), 0);
        }

        sentence("6 whether it is (1)");
        TankLayers on = tanks(10, 5);
        due("no rod", on.told(0, 6), 0);
        on.rod(0, 0, 10, 100, 0, 6, 10);
        due("not yet", on.told(0, 6), 0);
        on.run(1);
        due("it is", on.told(0, 6), 1);
        on.run(1);
        due("no more", on.told(0, 6), 0);
    }
}
