/**
 * Each sentence of the document's terms that names a boundary case, with a test of its own. The
 * answers are worked out by hand; a row of layers is written from below as volume:heat.
 */
public final class BoundariesOfTerms {
    private static final Checks CHECKS = new Checks();
    private static final Twins TWINS = new Twins(CHECKS);

    public static void main(String[] args) {
        calls();
        tanksAndTheirWater();
        cuts();
        mixing();
        takingAndComingIn();
        charge();
        heating();
        loss();
        rod();
        sensorOfARod();
        minute();
        exceptions();
        temperatures();
        CHECKS.end();
    }

    private static void sentence(String words) {
        CHECKS.sentence(words);
    }

    private static void due(String what, long got, long want) {
        CHECKS.due(what, got, want);
    }

    private static void row(String what, TankLayers x, long... want) {
        CHECKS.row(what, x, 0, want);
    }

    private static TankLayers oneTank(int volume, int temperature) {
        TankLayers x = new TankLayers();
        x.tank(volume, temperature);
        return x;
    }

    /** Ten parts with a heat that need not be ten times a temperature. */
    private static TankLayers tenWith(int heat) {
        TankLayers x = oneTank(10, 0);
        x.heat(0, 0, 10, heat);
        return x;
    }

    /** Three layers: 3:30 3:60 4:120. */
    private static TankLayers threeLayers() {
        TankLayers x = oneTank(10, 30);
        x.charge(0, 0, 3, 10);
        x.charge(0, 3, 3, 20);
        return x;
    }

    /** Forty layers: 1:0 1:10 1:20 .. 1:380 11:4290. */
    private static TankLayers fortyLayers() {
        TankLayers x = oneTank(50, 0);
        for (int k = 1; k <= 39; k++) {
            x.charge(0, 50, 50 - k, 10 * k);
        }
        return x;
    }

    private static void calls() {
        sentence("An object is used for at most 512 calls after it has been made");
        TankLayers x = oneTank(10, 1);
        for (int k = 2; k <= 511; k++) {
            due("call " + k, x.charge(0, 0, 10, k), 10 * (k - 1));
        }
        due("call 512", x.told(0, 0), 5110);
    }

    private static void tanksAndTheirWater() {
        sentence("TANKS are 0 .. 3");
        TankLayers x = new TankLayers();
        for (int k = 0; k <= 3; k++) {
            due("its number", x.tank(10 + k, k), k);
        }
        for (int k = 0; k <= 3; k++) {
            CHECKS.row("of tank " + k, x, k, 10 + k, (10 + k) * k);
        }
        TWINS.bounds("layers", Twins::house, 0, 3, (y, tank) -> y.layers(tank));

        sentence("each with a VOLUME V (10 .. 100000 parts)");
        TWINS.bounds("tank", Twins::threeTanks, 10, 100000, (y, volume) -> y.tank(volume, 1));
        row("the least", oneTank(10, 1), 10, 10);
        row("the most", oneTank(100000, 1), 100000, 100000);

        sentence("and always full");
        TankLayers f = threeLayers();
        f.tank(12, 5);
        f.draws(0, 1, 10);
        f.draws(0, 2, 1);
        f.rod(0, 1, 9, 77, 0, 100, 200);
        f.loses(0, 3, 1, 3);
        full("at first", f, 10, 12);
        f.charge(0, 10, 1, 7);
        full("one part charged", f, 10, 12);
        f.charge(0, 5, 10, 7);
        full("all parts charged", f, 10, 12);
        f.round(0, 1, 10);
        full("gone round, over", f, 10, 12);
        f.round(1, 0, 1);
        full("gone round, back", f, 10, 12);
        f.heat(0, 4, 7, -9);
        full("heated", f, 10, 12);
        f.run(1);
        full("all drawn", f, 10, 12);
        f.run(300);
        full("run", f, 10, 12);

        sentence("LAYERS, from below to above, each with a volume (1 or more parts)");
        TankLayers v = threeLayers();
        v.heat(0, 0, 10, 0);
        row("cut at the bottom and at the top", v, 3, 30, 3, 60, 4, 120);
        v.heat(0, 3, 6, 0);
        row("cut where layers meet", v, 3, 30, 3, 60, 4, 120);
        v.charge(0, 6, 4, 30);
        row("taken and come in where layers meet", v, 3, 30, 3, 60, 4, 120);
        v.charge(0, 0, 10, 8);
        row("all taken, and in below", v, 10, 80);
        v.charge(0, 10, 10, 9);
        row("all taken, and in above", v, 10, 90);
        v.heat(0, 9, 10, 1);
        row("a layer of one part", v, 9, 81, 1, 10);

        sentence("its TEMPERATURE is heat / volume, exactly");
        TankLayers e = oneTank(100000, 0);
        e.heat(0, 49999, 100000, 999994999);
        // 999955000 * 50001 is 1 less than 999994999 * 49999.
        due("colder by next to nothing", e.heat(0, 0, 49999, 999955000), 2);
        row("colder by next to nothing", e, 49999, 999955000, 50001, 999994999);
        due("warmer by next to nothing", e.heat(0, 0, 49999, 1), 1);
        row("warmer by next to nothing", e, 100000, 1999950000);
    }

    private static void full(String what, TankLayers x, int... volumes) {
        for (int tank = 0; tank < volumes.length; tank++) {
            long sum = 0;
            for (int k = 0; k < x.layers(tank); k++) {
                sum += x.layer(tank, k, 0);
                due(what + ": layer " + k + " of " + tank + " has parts", x.layer(tank, k, 0) >= 1 ? 1 : 0, 1);
            }
            due(what + ": parts of " + tank, sum, volumes[tank]);
        }
    }

    private static void cuts() {
        sentence("A CUT of a layer at a height within it makes two of it");
        TankLayers x = tenWith(9);
        due("at its lowest height", x.heat(0, 1, 10, 0), 2);
        row("at its lowest height", x, 1, 0, 9, 9);
        TankLayers y = tenWith(9);
        due("at its uppermost height", y.heat(0, 9, 10, 0), 2);
        row("at its uppermost height", y, 9, 8, 1, 1);
        TankLayers z = tenWith(9);
        due("not within it", z.heat(0, 0, 10, 0), 1);
        row("not within it", z, 10, 9);

        sentence("the lower one has heat * (its volume) / (the layer's), rounded down (to lesser numbers)");
        TankLayers above = tenWith(7);
        above.heat(0, 3, 10, 0);
        row("2.1 is 2", above, 3, 2, 7, 5);
        TankLayers below = tenWith(-7);
        below.heat(0, 3, 10, 0);
        row("-2.1 is -3", below, 3, -3, 7, -4);
        TankLayers least = tenWith(-1);
        least.heat(0, 9, 10, 0);
        row("-0.9 is -1", least, 9, -1, 1, 0);
        TankLayers none = tenWith(1);
        none.heat(0, 9, 10, 0);
        row("0.9 is 0", none, 9, 0, 1, 1);
        TankLayers whole = tenWith(-20);
        whole.heat(0, 3, 10, 0);
        row("-6 is -6, and both are one again", whole, 10, -20);

        sentence("the upper one the rest");
        TankLayers rest = oneTank(100000, 200000);
        rest.heat(0, 0, 100000, 999999999);
        due("taken", rest.charge(0, 0, 1, -1000), 20999999999L - 20999789999L);
        row("left", rest, 1, -1000, 99999, 20999789999L);
        due("in all", rest.told(0, 0), 20999788999L);
    }

    private static void mixing() {
        sentence("as long as a layer is as warm as the one above it, or warmer, both become one");
        TankLayers x = threeLayers();
        x.heat(0, 0, 3, 29);
        row("a little colder", x, 3, 59, 3, 60, 4, 120);
        x.heat(0, 0, 3, 1);
        row("as warm", x, 6, 120, 4, 120);
        TankLayers y = threeLayers();
        y.heat(0, 0, 3, 31);
        row("a little warmer", y, 6, 121, 4, 120);
        TankLayers all = threeLayers();
        all.heat(0, 0, 3, 1000);
        row("on and on", all, 10, 1210);
        TankLayers twice = threeLayers();
        twice.heat(0, 6, 10, -80);
        row("from above on", twice, 3, 30, 7, 100);
        twice.heat(0, 6, 10, -31);
        // 3:30 3:42 4:27: 42 and 27 are 7:69, colder than 10, so all are one.
        row("from above to the bottom", twice, 10, 99);

        sentence("(volumes and heats added)");
        TankLayers less = threeLayers();
        less.heat(0, 3, 6, -31);
        row("below 0 too", less, 6, 59, 4, 120);
        less.heat(0, 0, 6, -60);
        row("not rounded", less, 6, -1, 4, 120);

        sentence("then, as long as there are more than 40, the two lowest become one");
        TankLayers forty = fortyLayers();
        due("forty stay", forty.layers(0), 40);
        lowest("forty stay", forty, 1, 0, 1, 10);
        TankLayers one = fortyLayers();
        one.charge(0, 50, 1, 400);
        due("forty-one", one.layers(0), 40);
        lowest("forty-one", one, 2, 10, 1, 20);
        due("the uppermost of forty-one", one.layer(0, 39, 1), 400);
        TankLayers two = fortyLayers();
        due("made uneven", two.heat(0, 39, 50, 5), 40);
        // 11:4295 cut at 42 and at 47 is 3:1171 5:1952 3:1172, each colder than the next.
        due("forty-two", two.heat(0, 42, 47, 0), 40);
        lowest("forty-two", two, 3, 30, 1, 30);
        due("the third from above", two.layer(0, 37, 1), 1171);
        due("the second from above", two.layer(0, 38, 1), 1952);
        due("the uppermost", two.layer(0, 39, 1), 1172);
        TankLayers then = fortyLayers();
        then.charge(0, 39, 1, 380);
        due("forty-one, but two are as warm", then.layers(0), 40);
        lowest("forty-one, but two are as warm", then, 1, 0, 1, 10);
        due("these are one", then.layer(0, 38, 1), 760);

        sentence("(In whatever order layers are looked at, it comes to the same.)");
        TankLayers order = oneTank(30, 20);
        order.charge(0, 0, 10, 10);
        order.charge(0, 0, 10, 30);
        // 10:300 10:100 10:200: the lower two are as warm as 20, so all are one.
        row("the lower two first, or not", order, 30, 600);
        TankLayers other = oneTank(30, 20);
        other.charge(0, 0, 10, 10);
        other.heat(0, 20, 30, -200);
        // 10:100 10:200 10:0: the upper two are as warm as 10, so all are one.
        row("the upper two first, or not", other, 30, 300);
    }

    private static void lowest(String what, TankLayers x, int volume, int heat, int nextVolume, int nextHeat) {
        due(what + ": the lowest one's volume", x.layer(0, 0, 0), volume);
        due(what + ": the lowest one's heat", x.layer(0, 0, 1), heat);
        due(what + ": the next one's volume", x.layer(0, 1, 0), nextVolume);
        due(what + ": the next one's heat", x.layer(0, 1, 1), nextHeat);
    }

    private static void takingAndComingIn() {
        sentence("TAKING v parts from above: the layers are cut v parts below the top; what is above it goes: its heats added");
        due("within the uppermost", threeLayers().charge(0, 0, 3, 0), 90);
        due("the whole uppermost", threeLayers().charge(0, 0, 4, 0), 120);
        due("a part of the next too", threeLayers().charge(0, 0, 5, 0), 140);
        due("all but one part", threeLayers().charge(0, 0, 9, 0), 200);
        due("all", threeLayers().charge(0, 0, 10, 0), 210);
        due("what is above a cut of 7 * 7 / 10", tenWith(7).charge(0, 0, 3, 0), 3);
        due("what is above a cut of -7 * 7 / 10", tenWith(-7).charge(0, 0, 3, 0), -2);

        sentence("(From below: likewise, from the bottom.)");
        due("within the lowest", roundInto(2), 20);
        due("the whole lowest", roundInto(3), 30);
        due("a part of the next too", roundInto(4), 50);
        due("all but one part", roundInto(9), 180);
        due("all", roundInto(10), 210);
        TankLayers x = tenWith(7);
        x.tank(10, 0);
        x.heat(1, 0, 10, 7);
        // From above 7 - 4 are taken, from below 2.
        due("rounded down below", x.round(0, 1, 3), 3 - 2);
        row("rounded down below, the one", x, 10, 6);
        CHECKS.row("rounded down below, the other", x, 1, 7, 5, 3, 3);

        sentence("COMING IN at a height, of a volume and a heat: behind a cut there a layer .. lies between");
        TankLayers b = tenWith(7);
        // Of 9:6 (1 went with the uppermost part) the cut at 5 leaves 5:3 4:3; 1:1 is warmer than 4:3.
        due("within a layer", b.charge(0, 5, 1, 1), 1);
        row("within a layer", b, 5, 3, 5, 4);
        TankLayers m = threeLayers();
        m.charge(0, 3, 1, 15);
        row("where two meet", m, 3, 30, 1, 15, 3, 60, 3, 90);

        sentence("(At height 0 it is the lowest, at the top the uppermost.)");
        TankLayers low = threeLayers();
        low.charge(0, 0, 1, 9);
        row("the lowest", low, 1, 9, 3, 30, 3, 60, 3, 90);
        TankLayers high = threeLayers();
        high.charge(0, 10, 1, 31);
        row("the uppermost", high, 3, 30, 3, 60, 3, 90, 1, 31);
        TankLayers alone = threeLayers();
        alone.charge(0, 0, 10, 1);
        row("both, where nothing is left", alone, 10, 10);

        sentence("Then the tank mixes.");
        TankLayers warm = threeLayers();
        warm.charge(0, 0, 1, 11);
        // 1:11 3:30 are one, 4:41, colder than 20.
        row("what comes in below", warm, 4, 41, 3, 60, 3, 90);
        TankLayers cold = threeLayers();
        cold.charge(0, 10, 1, 29);
        row("what comes in above", cold, 3, 30, 3, 60, 4, 119);
        TankLayers then = oneTank(10, 0);
        then.heat(0, 2, 10, 5);
        then.heat(0, 0, 2, 1);
        // Of 2:1 8:5 the cut at 5 leaves 3:1, colder than 2:1: they would be one, were they mixed before.
        due("not when parts are taken", then.charge(0, 2, 5, 0), 4);
        row("not when parts are taken", then, 7, 1, 3, 1);
    }

    /** The heat taken from below of three layers: what comes in above of them is told, less this. */
    private static long roundInto(int v) {
        TankLayers x = threeLayers();
        x.tank(20, 0);
        return -x.round(1, 0, v);
    }

    private static void charge() {
        sentence("then this comes in at the height, or at V - v if that is less");
        int[] heights = {0, 5, 6, 7, 10};
        long[][] rows = {{10, 260}, {5, 50, 5, 210}, {6, 60, 4, 200}, {6, 60, 4, 200}, {6, 60, 4, 200}};
        for (int k = 0; k < heights.length; k++) {
            TankLayers x = oneTank(10, 10);
            due("four parts at height " + heights[k], x.charge(0, heights[k], 4, 50), 40);
            row("four parts at height " + heights[k], x, rows[k]);
        }
    }

    private static void heating() {
        sentence("HEATING from a height up to another one with a heat: layers are cut at both");
        TankLayers both = tenWith(5);
        // At 3 15 / 10 is 1, so 4 are above; of these at 8 20 / 7 is 2.
        both.heat(0, 3, 8, 0);
        row("within one layer", both, 3, 1, 5, 2, 2, 2);
        TankLayers all = threeLayers();
        all.heat(0, 0, 10, 0);
        row("from the bottom to the top nothing is cut", all, 3, 30, 3, 60, 4, 120);
        TankLayers part = threeLayers();
        part.heat(0, 9, 10, 5);
        row("one part at the top", part, 3, 30, 3, 60, 3, 90, 1, 35);
        TankLayers low = threeLayers();
        low.heat(0, 0, 1, -5);
        row("one part at the bottom", low, 1, 5, 2, 20, 3, 60, 4, 120);

        sentence("each layer between gets heat * (its volume) / (the heights' difference), rounded down");
        TankLayers even = threeLayers();
        even.heat(0, 0, 10, 10);
        row("nothing is left", even, 3, 33, 3, 63, 4, 124);
        TankLayers less = threeLayers();
        less.heat(0, 0, 10, -1);
        // -0.3, -0.3 and -0.4 are -1 each; 2 are left.
        row("less than one each", less, 3, 29, 3, 59, 4, 121);
        TankLayers some = threeLayers();
        some.heat(0, 2, 8, 7);
        // 1:10, 3:60 and 2:60 get 7 / 6, 21 / 6 and 14 / 6: 1, 3 and 2; 1 is left, of 2:63 2:60.
        row("of the difference, not of V", some, 2, 20, 1, 11, 3, 63, 4, 123);

        sentence("what is left goes to the uppermost of these");
        TankLayers left = threeLayers();
        left.heat(0, 0, 10, 1);
        row("all is left", left, 3, 30, 3, 60, 4, 121);
        TankLayers these = threeLayers();
        these.heat(0, 0, 6, 1);
        row("not the uppermost of all", these, 3, 30, 3, 61, 4, 120);
        these.heat(0, 0, 6, -1);
        row("below 0 too", these, 3, 29, 3, 61, 4, 120);

        sentence("HEATING: .. the tank mixes");
        TankLayers mixed = threeLayers();
        mixed.heat(0, 0, 3, 30);
        row("as warm as above", mixed, 6, 120, 4, 120);
    }

    private static void loss() {
        sentence("each layer's heat is less by (heat - volume * ambient) * above / below, rounded down");
        due("warmer by 1, of a million", lossOf(51, 5, 1, 1000000), 0);
        due("as warm", lossOf(50, 5, 1, 1000000), 0);
        due("colder by 1, of a million", lossOf(49, 5, 1, 1000000), -1);
        due("warmer by 1, all but a millionth", lossOf(51, 5, 999999, 1000000), 0);
        due("warmer by 1, all", lossOf(51, 5, 1000000, 1000000), 1);
        due("colder by 1, all", lossOf(49, 5, 1, 1), -1);
        due("half of 3", lossOf(53, 5, 1, 2), 1);
        due("half of -3", lossOf(47, 5, 1, 2), -2);
        due("below 0", lossOf(-53, -5, 1, 2), -2);
        TankLayers x = threeLayers();
        x.loses(0, 9, 1, 2);
        x.run(1);
        // (30 - 27) / 2 is 1, (60 - 27) / 2 is 16, (120 - 36) / 2 is 42.
        row("each for itself", x, 3, 29, 3, 44, 4, 78);
        due("lost in all", x.told(0, 4), 59);
        TankLayers fewer = threeLayers();
        fewer.charge(0, 0, 10, 30);
        fewer.loses(0, 0, 1, 1);
        fewer.run(1);
        due("not of layers that were", fewer.told(0, 4), 300);

        sentence("A LOSS of ABOVE / BELOW against an AMBIENT: .. the tank mixes");
        TankLayers all = threeLayers();
        all.loses(0, 7, 1, 1);
        all.run(1);
        row("all are as warm", all, 10, 70);
    }

    private static long lossOf(int heat, int ambient, int above, int below) {
        TankLayers x = tenWith(heat);
        x.loses(0, ambient, above, below);
        x.run(1);
        due("what is left of " + heat, x.told(0, 0), heat - x.told(0, 4));
        return x.told(0, 4);
    }

    private static void rod() {
        sentence("A ROD heats between two heights with a heat in each minute in which it is ON");
        TankLayers x = oneTank(10, 10);
        x.rod(0, 4, 6, 100, 0, 11, 12);
        x.run(1);
        // 4:40 2:120 4:40.
        row("between them alone", x, 4, 40, 6, 160);
        x.run(2);
        // 2:153 4:107 are one again, and so are 2:186 4:174.
        row("in each minute", x, 4, 40, 6, 360);
        due("given", x.told(0, 3), 300);
        TankLayers whole = oneTank(10, 10);
        whole.rod(0, 0, 10, 10, 0, 11, 200);
        whole.run(1);
        row("from the bottom to the top", whole, 10, 110);

        sentence("It is ON from a minute on in which the SENSOR (at a height) has less than LOW");
        due("far less", turnedOn(-10000, 40), 1);
        due("less by one part of heat", turnedOn(399, 40), 1);
        due("LOW", turnedOn(400, 40), 0);
        due("more", turnedOn(401, 40), 0);
        due("less than 0", turnedOn(-1, 0), 1);
        due("0", turnedOn(0, 0), 0);
        due("less than the least temperature", turnedOn(-10001, -1000), 1);
        due("the least temperature", turnedOn(-10000, -1000), 0);

        sentence("up to one in which it has HIGH or more");
        due("LOW and more", stayedOn(400, 60), 1);
        due("less than HIGH by one part of heat", stayedOn(599, 60), 1);
        due("HIGH", stayedOn(600, 60), 0);
        due("more than HIGH", stayedOn(601, 60), 0);
        due("far more than HIGH", stayedOn(1000000, 60), 0);
        TankLayers one = oneTank(10, 39);
        one.rod(0, 0, 10, 10, 0, 40, 40);
        one.run(1);
        due("LOW and HIGH are one, less", one.told(0, 6), 1);
        one.run(1);
        due("LOW and HIGH are one, as much", one.told(0, 6), 0);
        row("no heat in the minute that ends it", one, 10, 400);

        sentence("(that is asked at its turn in the minute; OFF at first)");
        TankLayers turn = oneTank(10, 50);
        turn.draws(0, 1, 10);
        turn.rod(0, 0, 10, 70, 0, 40, 60);
        turn.loses(0, 0, 1, 1);
        due("OFF at first", turn.told(0, 6), 0);
        turn.cold(39);
        turn.run(1);
        due("behind the draw", turn.told(0, 6), 1);
        due("ahead of the loss", turn.told(0, 4), 460);
        TankLayers before = oneTank(10, 50);
        before.rod(0, 0, 10, 70, 0, 40, 60);
        before.loses(0, 0, 1, 1);
        before.run(1);
        due("not behind the loss", before.told(0, 6), 0);
        before.run(1);
        due("but in the next minute", before.told(0, 6), 1);
        TankLayers between = oneTank(10, 50);
        between.rod(0, 0, 10, 70, 0, 40, 60);
        between.run(1);
        due("OFF between LOW and HIGH", between.told(0, 6), 0);
    }

    /** Whether a rod is on after a minute with ten parts of a heat, and heated then. */
    private static long turnedOn(int heat, int low) {
        TankLayers x = tenWith(heat);
        x.rod(0, 0, 10, 1, 0, low, 200000);
        x.run(1);
        due("it heats if it is on, with " + heat, x.told(0, 0), heat + x.told(0, 6));
        due("it gives if it is on, with " + heat, x.told(0, 3), x.told(0, 6));
        return x.told(0, 6);
    }

    /** Whether a rod that is on is so after a minute with ten parts of a heat, and heated then. */
    private static long stayedOn(int heat, int high) {
        TankLayers x = tenWith(0);
        x.rod(0, 0, 10, 1, 0, 40, high);
        x.run(1);
        x.heat(0, 0, 10, heat - 1);
        due("as was made ready", x.told(0, 0), heat);
        x.run(1);
        due("it heats as long as it is on, with " + heat, x.told(0, 0), heat + x.told(0, 6));
        due("its minutes, with " + heat, x.told(0, 5), 1 + x.told(0, 6));
        return x.told(0, 6);
    }

    private static void sensorOfARod() {
        sentence("What a sensor has is the temperature, rounded down, of the layer in which its height is");
        due("4.1", tenWith(41).sensor(0, 0), 4);
        due("4.9", tenWith(49).sensor(0, 0), 4);
        due("4", tenWith(40).sensor(0, 0), 4);
        due("-0.1", tenWith(-1).sensor(0, 0), -1);
        due("-4", tenWith(-40).sensor(0, 0), -4);
        due("-4.1", tenWith(-41).sensor(0, 0), -5);
        due("less than the least temperature", tenWith(-1000000000).sensor(0, 9), -100000000);
        due("more than the most", tenWith(1000000000).sensor(0, 9), 100000000);
        due("the bottom", threeLayers().sensor(0, 0), 10);
        due("the top", threeLayers().sensor(0, 9), 30);

        sentence("(of two that meet there the upper one)");
        int[] due = {10, 10, 10, 20, 20, 20, 30, 30, 30, 30};
        for (int height = 0; height < 10; height++) {
            due("at " + height, threeLayers().sensor(0, height), due[height]);
        }
        int[] on = {1, 1, 1, 1, 1, 1, 0, 0, 0, 0};
        for (int height = 0; height < 10; height++) {
            TankLayers x = threeLayers();
            x.rod(0, 0, 10, 1, height, 21, 21);
            x.run(1);
            due("a rod's at " + height, x.told(0, 6), on[height]);
        }
    }

    private static void minute() {
        sentence("A MINUTE: TIME grows by 1");
        TankLayers x = oneTank(10, 0);
        x.draws(0, 0, 1);
        x.draws(0, 1, 2);
        x.draws(0, 2, 4);
        due("the first", x.run(1), 1);
        due("drawn in the first", x.told(0, 1), 2);
        due("the second", x.run(1), 2);
        due("drawn in the second", x.told(0, 1), 6);

        sentence("what the timetable says for TIME modulo 1440 is drawn");
        TankLayers day = oneTank(1000, 0);
        day.draws(0, 1439, 100);
        day.draws(0, 0, 10);
        day.draws(0, 1, 1);
        long[] drawn = {1, 101, 111, 112, 212, 222, 223, 323, 333, 334};
        int[] times = {1438, 1439, 1440, 1441, 2879, 2880, 2881, 4319, 4320, 4321};
        int now = 0;
        for (int k = 0; k < times.length; k++) {
            Twins.passed(day, times[k] - now);
            now = times[k];
            due("up to " + now, day.told(0, 1), drawn[k]);
        }

        sentence("a charge of so much at height 0 with COLD as temperature");
        TankLayers cold = threeLayers();
        cold.cold(-1000);
        cold.draws(0, 1, 5);
        cold.run(1);
        row("in below", cold, 5, -5000, 3, 30, 2, 40);
        due("taken from above", cold.told(0, 2), 140);
        TankLayers warm = threeLayers();
        warm.cold(200000);
        warm.draws(0, 1, 1);
        warm.run(1);
        row("warmer than all", warm, 10, 200180);

        sentence("then its rod; then its loss");
        TankLayers order = oneTank(10, 100);
        order.draws(0, 1, 10);
        order.rod(0, 0, 10, 60, 0, 50, 60);
        order.loses(0, 0, 1, 2);
        order.run(1);
        // Drawn 1000, so the sensor has 0; 60 are given, and half of them are lost.
        row("after them all", order, 10, 30);
        due("the draw before the rod", order.told(0, 2), 1000);
        due("the rod before the loss", order.told(0, 4), 30);
    }

    private static void exceptions() {
        sentence("In all calls illegal argument: .. there is no such tank");
        Twins.Recipe three = Twins::threeTanks;
        TWINS.argument("charge", three, x -> x.charge(3, 0, 1, 1));
        TWINS.argument("round from it", three, x -> x.round(3, 0, 1));
        TWINS.argument("round to it", three, x -> x.round(0, 3, 1));
        TWINS.argument("heat", three, x -> x.heat(3, 0, 1, 1));
        TWINS.argument("loses", three, x -> x.loses(3, 1, 1, 2));
        TWINS.argument("rod", three, x -> x.rod(3, 0, 1, 1, 0, 1, 1));
        TWINS.argument("draws", three, x -> x.draws(3, 1, 1));
        TWINS.argument("layers", three, x -> x.layers(3));
        TWINS.argument("layer", three, x -> x.layer(3, 0, 0));
        TWINS.argument("sensor", three, x -> x.sensor(3, 0));
        TWINS.argument("warm", three, x -> x.warm(3, 1));
        TWINS.argument("told", three, x -> x.told(3, 0));

        sentence("Of several exceptions the one named first is thrown");
        TWINS.argument("a fifth tank, too small", Twins::house, x -> x.tank(9, 1));
        TWINS.argument("a fifth tank, too large", Twins::house, x -> x.tank(100001, 1));
        TWINS.argument("a fifth tank, too cold", Twins::house, x -> x.tank(10, -1001));
        TWINS.argument("a fifth tank, too warm", Twins::house, x -> x.tank(10, 200001));
        TWINS.argument("a 41st minute below 0", BoundariesOfTerms::fullTimetable, x -> x.draws(0, -1, 1));
        TWINS.argument("a 41st minute of no day", BoundariesOfTerms::fullTimetable, x -> x.draws(0, 1440, 1));
        TWINS.argument("a 41st minute with less than nothing", BoundariesOfTerms::fullTimetable, x -> x.draws(0, 0, -1));
        TWINS.argument("a 41st minute with too much", BoundariesOfTerms::fullTimetable, x -> x.draws(0, 0, 11));
        TWINS.argument("no minute above 5000", BoundariesOfTerms::atTheEnd, x -> x.run(0));
        TWINS.argument("301 minutes above 5000", BoundariesOfTerms::atTheEnd, x -> x.run(301));
        TWINS.argument("all minutes", BoundariesOfTerms::atTheEnd, x -> x.run(Integer.MAX_VALUE));

        sentence("a call that throws changes nothing");
        TWINS.state("a fifth tank", Twins::house, x -> x.tank(10, 1));
        TWINS.state("a 41st minute", BoundariesOfTerms::fullTimetable, x -> x.draws(0, 0, 1));
        TWINS.state("a time of 5001", BoundariesOfTerms::atTheEnd, x -> x.run(1));
        TWINS.argument("cold", Twins::house, x -> x.cold(200001));
        TWINS.argument("charge", Twins::house, x -> x.charge(0, 3, 20, 200001));
        TWINS.argument("round", Twins::house, x -> x.round(0, 1, 21));
        TWINS.argument("heat", Twins::house, x -> x.heat(0, 3, 7, 1000000001));
        TWINS.argument("loses", Twins::house, x -> x.loses(0, 77, 11, 10));
        TWINS.argument("rod that is on", Twins::house, x -> x.rod(0, 1, 3, 7, 0, -900, -901));
        TWINS.argument("rod that is off", Twins::house, x -> x.rod(1, 1, 3, 7, 29, -900, -901));
        TWINS.argument("draws", Twins::house, x -> x.draws(0, 2, 21));
    }

    /** Forty minutes with a draw, 2 .. 41, of a tank of ten parts. */
    private static TankLayers fullTimetable() {
        TankLayers x = oneTank(10, 5);
        for (int minute = 2; minute <= 41; minute++) {
            x.draws(0, minute, 1 + minute % 10);
        }
        return x;
    }

    private static TankLayers atTheEnd() {
        return Twins.passed(Twins.house(), 4999);
    }

    private static void temperatures() {
        sentence("Temperatures are -1000 .. 200000.");
        TWINS.temperatures("tank", Twins::threeTanks, (x, t) -> x.tank(10, t));
        TWINS.temperatures("cold", Twins::house, (x, t) -> x.cold(t));
        TWINS.temperatures("charge", Twins::house, (x, t) -> x.charge(0, 3, 5, t));
        TWINS.temperatures("loses", Twins::house, (x, t) -> x.loses(0, t, 3, 4));
        TWINS.temperatures("rod's low", Twins::house, (x, t) -> x.rod(0, 1, 3, 7, 0, t, 200000));
        TWINS.temperatures("rod's high", Twins::house, (x, t) -> x.rod(0, 1, 3, 7, 0, -1000, t));
        TWINS.temperatures("rod's low and high", Twins::house, (x, t) -> x.rod(1, 1, 3, 7, 29, t, t));
        TWINS.temperatures("warm", Twins::house, (x, t) -> x.warm(0, t));
    }
}
