/** Each promise of the document, with answers that were worked out by hand from its words. */
public final class Promises {
    private static final Checks CHECKS = new Checks();
    private static final int LEAST = Integer.MIN_VALUE;
    private static final int MOST = Integer.MAX_VALUE;

    public static void main(String[] args) {
        newObject();
        tank();
        cold();
        charge();
        chargeRounds();
        mixing();
        fortyLayers();
        round();
        heat();
        heatRounds();
        loses();
        rod();
        rodThatIsNone();
        draws();
        run();
        orderOfAMinute();
        layers();
        layer();
        sensor();
        warm();
        told();
        throwingChangesNothing();
        CHECKS.end();
    }

    private static void due(String what, long got, long want) {
        CHECKS.due(what, got, want);
    }

    private static void row(String what, TankLayers x, int tank, long... want) {
        CHECKS.row(what, x, tank, want);
    }

    private static TankLayers oneTank(int volume, int temperature) {
        TankLayers x = new TankLayers();
        x.tank(volume, temperature);
        return x;
    }

    private static void newObject() {
        TankLayers x = new TankLayers();
        due("1: NONE", TankLayers.NONE, -1);
        for (int k = -1; k <= 4; k++) {
            int tank = k;
            CHECKS.argument("1: no tank " + k, () -> x.layers(tank));
        }
        due("1: cold at first", x.cold(7), 0);
        due("1: time without tanks", x.run(1), 1);
        TankLayers y = new TankLayers();
        due("1: objects are apart, cold", y.cold(3), 0);
        due("1: objects are apart, time", y.run(1), 1);
    }

    private static void tank() {
        TankLayers x = new TankLayers();
        int[][] wrong = {{9, 0}, {100001, 0}, {LEAST, 0}, {MOST, 0}, {10, -1001}, {10, 200001}, {10, LEAST}, {10, MOST}};
        for (int[] a : wrong) {
            CHECKS.argument("2: tank(" + a[0] + ", " + a[1] + ")", () -> x.tank(a[0], a[1]));
        }
        due("2: first", x.tank(10, -1000), 0);
        due("2: second", x.tank(100000, 200000), 1);
        due("2: third", x.tank(100000, -1000), 2);
        CHECKS.argument("2: a fourth is not there yet", () -> x.layers(3));
        due("2: fourth", x.tank(11, 0), 3);
        row("2: least", x, 0, 10, -10000);
        row("2: most", x, 1, 100000, 20000000000L);
        row("2: large and cold", x, 2, 100000, -100000000);
        row("2: at 0", x, 3, 11, 0);
        CHECKS.state("2: a fifth", () -> x.tank(10, 0));
        CHECKS.argument("2: a wrong fifth", () -> x.tank(9, 0));
        CHECKS.argument("2: no fifth", () -> x.layers(4));
    }

    private static void cold() {
        TankLayers x = new TankLayers();
        due("3: to the least", x.cold(-1000), 0);
        CHECKS.argument("3: too cold", () -> x.cold(-1001));
        CHECKS.argument("3: too warm", () -> x.cold(200001));
        CHECKS.argument("3: far too cold", () -> x.cold(LEAST));
        CHECKS.argument("3: far too warm", () -> x.cold(MOST));
        due("3: to the most", x.cold(200000), -1000);
        due("3: back", x.cold(4), 200000);
        x.tank(10, 9);
        x.draws(0, 1, 5);
        x.draws(0, 2, 5);
        x.run(1);
        row("3: drawn with the cold of now", x, 0, 5, 20, 5, 45);
        x.cold(2);
        x.run(1);
        row("3: drawn with the next cold", x, 0, 5, 10, 5, 20);
    }

    private static void charge() {
        TankLayers x = oneTank(10, 100);
        due("4: cold below", x.charge(0, 0, 4, 50), 400);
        row("4: cold below", x, 0, 4, 200, 6, 600);
        due("4: fits between", x.charge(0, 4, 2, 70), 200);
        row("4: fits between", x, 0, 4, 200, 2, 140, 4, 400);
        due("4: at the top", x.charge(0, 10, 3, 200), 300);
        row("4: at the top", x, 0, 4, 200, 2, 140, 1, 100, 3, 600);
        due("4: at V - v exactly", x.charge(0, 7, 3, 300), 600);
        row("4: at V - v exactly", x, 0, 4, 200, 2, 140, 1, 100, 3, 900);
        due("4: V - v is less", x.charge(0, 8, 5, 120), 900 + 100 + 70);
        row("4: V - v is less", x, 0, 4, 200, 1, 70, 5, 600);
        due("4: all of it", x.charge(0, 0, 10, -1000), 870);
        row("4: all of it", x, 0, 10, -10000);
        due("4: all of it, from the top", x.charge(0, 10, 10, 200000), -10000);
        row("4: all of it, from the top", x, 0, 10, 2000000);
        int[][] wrong = {{1, 0, 1, 0}, {-1, 0, 1, 0}, {4, 0, 1, 0}, {LEAST, 0, 1, 0}, {MOST, 0, 1, 0}, {0, -1, 1, 0},
            {0, 11, 1, 0}, {0, LEAST, 1, 0}, {0, MOST, 1, 0}, {0, 0, 0, 0}, {0, 0, 11, 0}, {0, 0, -1, 0},
            {0, 0, LEAST, 0}, {0, 0, MOST, 0}, {0, 0, 1, -1001}, {0, 0, 1, 200001}, {0, 0, 1, LEAST}, {0, 0, 1, MOST}};
        for (int[] a : wrong) {
            CHECKS.argument("4: charge" + java.util.Arrays.toString(a), () -> x.charge(a[0], a[1], a[2], a[3]));
        }
        row("4: after wrong ones", x, 0, 10, 2000000);
    }

    private static void chargeRounds() {
        TankLayers x = oneTank(10, 0);
        x.heat(0, 0, 10, -7);
        // The cut at 7 leaves -49 / 10, rounded down -5, below; -2 is above.
        due("4: rounded to lesser numbers", x.charge(0, 10, 3, 5), -2);
        row("4: rounded to lesser numbers", x, 0, 7, -5, 3, 15);

        TankLayers y = oneTank(10, 0);
        y.heat(0, 2, 10, 5);
        y.heat(0, 0, 2, 1);
        row("4: made ready", y, 0, 2, 1, 8, 5);
        // The cut at 5 leaves 3 parts with 1, colder than what lies below; they meet only after it came in.
        due("4: nothing mixes between taking and coming in", y.charge(0, 2, 5, 0), 4);
        row("4: nothing mixes between taking and coming in", y, 0, 7, 1, 3, 1);

        TankLayers z = oneTank(100000, 200000);
        due("4: large", z.charge(0, 0, 100000, 199999), 20000000000L);
        due("4: large, odd", z.charge(0, 33333, 77777, 200000), 77777L * 199999);
    }

    private static void mixing() {
        TankLayers x = oneTank(10, 100);
        x.charge(0, 0, 5, 50);
        x.charge(0, 5, 1, 50);
        row("4: as warm as the one below is one with it", x, 0, 6, 300, 4, 400);
        x.charge(0, 6, 1, 100);
        row("4: as warm as the one above is one with it", x, 0, 6, 300, 4, 400);
        x.charge(0, 3, 2, 49);
        // 3:150, 2:98, 3:150, 2:200 - the first two make 5:248, which is colder than 50.
        row("4: only as far as it is warmer", x, 0, 5, 248, 3, 150, 2, 200);
        x.charge(0, 0, 1, 60);
        // 1:60 5:248 make 6:308, warmer than 50: 9:458 is colder than 100.
        row("4: on and on", x, 0, 9, 458, 1, 100);
        x.charge(0, 0, 2, 3000);
        // From the cut at 8 the lower has 3664 / 9, rounded down 407.
        row("4: all one", x, 0, 10, 6407);
    }

    private static void fortyLayers() {
        TankLayers x = oneTank(50, 0);
        for (int k = 1; k <= 39; k++) {
            x.charge(0, 50, 50 - k, 10 * k);
        }
        due("4: forty stay", x.layers(0), 40);
        due("4: the lowest is alone", x.layer(0, 0, 0), 1);
        due("4: the second is alone", x.layer(0, 1, 1), 10);
        due("4: forty more parts", x.charge(0, 50, 3, 400), 3 * 390);
        due("4: the 41st", x.layers(0), 40);
        due("4: two lowest are one, volume", x.layer(0, 0, 0), 2);
        due("4: two lowest are one, heat", x.layer(0, 0, 1), 10);
        due("4: the next is alone", x.layer(0, 1, 1), 20);
        due("4: the uppermost", x.layer(0, 39, 1), 1200);
        due("6: two cuts in a full row", x.heat(0, 48, 49, 100), 40);
        // Cuts at 48 and 49 make 400, 500, 400 of the top; 500 and 400 are one. 41 layers: 2:10 and 1:20 are one.
        due("6: two lowest are one, volume", x.layer(0, 0, 0), 3);
        due("6: two lowest are one, heat", x.layer(0, 0, 1), 30);
        due("6: heated, volume", x.layer(0, 39, 0), 2);
        due("6: heated, heat", x.layer(0, 39, 1), 900);
        due("6: below it", x.layer(0, 38, 1), 400);
    }

    private static void round() {
        TankLayers x = oneTank(10, 100);
        x.tank(20, 50);
        due("5: warm over", x.round(0, 1, 4), 400 - 200);
        row("5: warm over, the one", x, 0, 4, 200, 6, 600);
        row("5: warm over, the other", x, 1, 16, 800, 4, 400);
        due("5: and back", x.round(1, 0, 4), 400 - 200);
        row("5: and back, the one", x, 0, 10, 1000);
        row("5: and back, the other", x, 1, 20, 1000);
        due("5: cold over", x.round(1, 0, 3), 150 - 300);
        // 7:700 below 3:150 are one; 3:300 below 17:850 are one.
        row("5: cold over, the one", x, 0, 10, 850);
        row("5: cold over, the other", x, 1, 20, 1150);
        due("5: the lesser V", x.round(0, 1, 10), 850 - 575);
        row("5: the lesser V, the one", x, 0, 10, 575);
        row("5: the lesser V, the other", x, 1, 10, 575, 10, 850);
        due("5: one part", x.round(1, 0, 1), 85 - 57);
        row("5: one part, the one", x, 0, 9, 518, 1, 85);
        // 57 is colder than 57.5, so what came in below stays a layer.
        row("5: one part, the other", x, 1, 1, 57, 10, 575, 9, 765);
        int[][] wrong = {{0, 0, 1}, {1, 1, 1}, {0, 2, 1}, {2, 0, 1}, {2, 2, 1}, {-1, 0, 1}, {0, -1, 1}, {0, 4, 1},
            {LEAST, 0, 1}, {0, MOST, 1}, {0, 1, 0}, {0, 1, 11}, {1, 0, 11}, {0, 1, -1}, {0, 1, LEAST}, {0, 1, MOST}};
        for (int[] a : wrong) {
            CHECKS.argument("5: round" + java.util.Arrays.toString(a), () -> x.round(a[0], a[1], a[2]));
        }
        row("5: after wrong ones, the one", x, 0, 9, 518, 1, 85);
        row("5: after wrong ones, the other", x, 1, 1, 57, 10, 575, 9, 765);
    }

    private static void heat() {
        TankLayers x = oneTank(10, 10);
        due("6: in the middle", x.heat(0, 4, 6, 100), 2);
        // 4:40, 2:120, 4:40 - the upper two are one.
        row("6: in the middle", x, 0, 4, 40, 6, 160);
        due("6: at the top", x.heat(0, 8, 10, 1000), 3);
        row("6: at the top", x, 0, 4, 40, 4, 106, 2, 1054);
        due("6: cooled below", x.heat(0, 0, 2, -20), 4);
        row("6: cooled below", x, 0, 2, 0, 2, 20, 4, 106, 2, 1054);
        due("6: the most", x.heat(0, 0, 10, 1000000000), 4);
        due("6: the most, in all", x.told(0, 0), 1000001180);
        due("6: the least", x.heat(0, 9, 10, -1000000000), 1);
        row("6: the least", x, 0, 10, 1180);
        int[][] wrong = {{1, 0, 1, 0}, {-1, 0, 1, 0}, {4, 0, 1, 0}, {MOST, 0, 1, 0}, {0, 5, 5, 0}, {0, 6, 5, 0},
            {0, 0, 0, 0}, {0, 10, 10, 0}, {0, -1, 5, 0}, {0, LEAST, 5, 0}, {0, 0, 11, 0}, {0, 0, MOST, 0}, {0, 10, 11, 0},
            {0, 0, 1, 1000000001}, {0, 0, 1, -1000000001}, {0, 0, 1, LEAST}, {0, 0, 1, MOST}};
        for (int[] a : wrong) {
            CHECKS.argument("6: heat" + java.util.Arrays.toString(a), () -> x.heat(a[0], a[1], a[2], a[3]));
        }
        row("6: after wrong ones", x, 0, 10, 1180);
    }

    private static void heatRounds() {
        TankLayers x = oneTank(10, 100);
        x.charge(0, 0, 3, 50);
        x.charge(0, 3, 3, 70);
        row("6: made ready", x, 0, 3, 150, 3, 210, 4, 400);
        // 3 * 11 / 10 is 3, twice; 4 * 11 / 10 is 4; 1 is left.
        due("6: what is left goes up", x.heat(0, 0, 10, 11), 3);
        row("6: what is left goes up", x, 0, 3, 153, 3, 213, 4, 405);
        // -33 / 10 is -4, twice; -44 / 10 is -5; 2 are left.
        due("6: rounded to lesser numbers", x.heat(0, 0, 10, -11), 3);
        row("6: rounded to lesser numbers", x, 0, 3, 149, 3, 209, 4, 402);
        // Of 5 from 0 to 6 the layers get 15 / 6 each, 2, and the upper one of them, not of the tank, 1 more.
        due("6: the uppermost of these", x.heat(0, 0, 6, 5), 3);
        row("6: the uppermost of these", x, 0, 3, 151, 3, 212, 4, 402);
        // Cuts at 3 and 8 make 3:151 3:212 2:201 2:201; of 13 over 5 parts 39 / 5 is 7, 26 / 5 is 5, and 1 is left.
        due("6: by the heights' difference", x.heat(0, 3, 8, 13), 3);
        row("6: by the heights' difference", x, 0, 3, 151, 3, 219, 4, 408);

        TankLayers y = oneTank(10, 0);
        y.heat(0, 0, 10, 5);
        // At 3: 15 / 10 is 1, 4 above it; of these at 8: 20 / 7 is 2.
        due("6: no heat, but cuts, the lower one first", y.heat(0, 3, 8, 0), 3);
        row("6: no heat, but cuts, the lower one first", y, 0, 3, 1, 5, 2, 2, 2);
    }

    private static void loses() {
        TankLayers x = oneTank(10, 0);
        x.run(1);
        due("7: none at first", x.told(0, 4), 0);
        x.loses(0, 1, 1, 3);
        due("7: not before a minute", x.told(0, 0), 0);
        x.run(1);
        // (0 - 10) / 3 is -4, rounded down.
        row("7: rounded to lesser numbers", x, 0, 10, 4);
        due("7: lost", x.told(0, 4), -4);
        x.run(1);
        row("7: in each minute", x, 0, 10, 6);
        x.loses(0, 1, 0, 1000000);
        x.run(5);
        row("7: nothing of it", x, 0, 10, 6);
        x.loses(0, 200000, 1, 1);
        x.run(1);
        row("7: all of it", x, 0, 10, 2000000);
        x.loses(0, -1000, 1000000, 1000000);
        x.run(1);
        row("7: all of it, of a million", x, 0, 10, -10000);
        due("7: lost in all", x.told(0, 4), 10000);

        TankLayers y = oneTank(10, 100);
        y.charge(0, 0, 4, 50);
        y.loses(0, 40, 1, 7);
        y.run(1);
        // (200 - 160) / 7 is 5; (600 - 240) / 7 is 51.
        row("7: layer by layer", y, 0, 4, 195, 6, 549);
        y.loses(0, 0, 1, 1);
        y.run(1);
        row("7: then it mixes", y, 0, 10, 0);
        due("7: lost, layer by layer", y.told(0, 4), 5 + 51 + 195 + 549);
        int[][] wrong = {{1, 0, 0, 1}, {-1, 0, 0, 1}, {4, 0, 0, 1}, {0, -1001, 0, 1}, {0, 200001, 0, 1}, {0, LEAST, 0, 1},
            {0, MOST, 0, 1}, {0, 0, 0, 0}, {0, 0, 0, -1}, {0, 0, 0, 1000001}, {0, 0, -1, 1}, {0, 0, 2, 1}, {0, 0, 0, LEAST},
            {0, 0, 0, MOST}, {0, 0, LEAST, 1}, {0, 0, MOST, 1}, {0, 0, -1, -1}};
        for (int[] a : wrong) {
            CHECKS.argument("7: loses" + java.util.Arrays.toString(a), () -> x.loses(a[0], a[1], a[2], a[3]));
        }
        x.run(1);
        row("7: after wrong ones", x, 0, 10, -10000);
    }

    private static void rod() {
        TankLayers x = oneTank(10, 0);
        x.rod(0, 0, 10, 100, 5, 5, 30);
        due("8: off at first", x.told(0, 6), 0);
        x.run(1);
        due("8: on below low", x.told(0, 6), 1);
        row("8: heats at once", x, 0, 10, 100);
        x.run(2);
        due("8: on between", x.told(0, 6), 1);
        row("8: heats between", x, 0, 10, 300);
        x.run(1);
        due("8: off at high", x.told(0, 6), 0);
        row("8: heats no more", x, 0, 10, 300);
        x.charge(0, 0, 10, 5);
        x.run(1);
        due("8: low is not less than low", x.told(0, 6), 0);
        x.charge(0, 0, 10, 4);
        x.run(1);
        due("8: less than low", x.told(0, 6), 1);
        row("8: once more", x, 0, 10, 140);
        due("8: given", x.told(0, 3), 400);
        due("8: minutes", x.told(0, 5), 4);
        x.rod(0, 5, 10, 50, 4, 14, 14);
        due("8: a new one is off", x.told(0, 6), 0);
        due("8: what was given stays", x.told(0, 3), 400);
        x.run(1);
        due("8: a new one is asked anew", x.told(0, 6), 0);
        x.rod(0, 5, 10, 50, 4, 15, 15);
        x.run(1);
        row("8: between its heights", x, 0, 5, 70, 5, 120);
        due("8: the sensor is below", x.sensor(0, 4), 14);
        x.run(1);
        row("8: by its own sensor", x, 0, 5, 70, 5, 170);
        x.rod(0, 5, 10, 50, 5, 15, 34);
        x.run(1);
        row("8: its sensor is above", x, 0, 5, 70, 5, 170);
        due("8: given in all", x.told(0, 3), 500);
        due("8: minutes in all", x.told(0, 5), 6);
        x.rod(0, 0, 10, 10000000, 9, -1000, 200000);
        x.rod(0, 0, 10, 10000000, 0, 200000, 200000);
        int[][] wrong = {{1, 0, 1, 1, 0, 0, 0}, {-1, 0, 1, 1, 0, 0, 0}, {4, 0, 1, 1, 0, 0, 0}, {0, -1, 1, 1, 0, 0, 0},
            {0, 1, 1, 1, 0, 0, 0}, {0, 2, 1, 1, 0, 0, 0}, {0, 0, 11, 1, 0, 0, 0}, {0, 0, MOST, 1, 0, 0, 0},
            {0, LEAST, 1, 1, 0, 0, 0}, {0, 0, 1, -1, 0, 0, 0}, {0, 0, 1, 10000001, 0, 0, 0}, {0, 0, 1, MOST, 0, 0, 0},
            {0, 0, 1, 1, -1, 0, 0}, {0, 0, 1, 1, 10, 0, 0}, {0, 0, 1, 1, MOST, 0, 0}, {0, 0, 1, 1, 0, 1, 0},
            {0, 0, 1, 1, 0, -1001, 0}, {0, 0, 1, 1, 0, 0, 200001}, {0, 0, 1, 1, 0, 200001, 200001},
            {0, 0, 1, 1, 0, -1001, -1001}, {0, 0, 1, 1, 0, LEAST, MOST}, {0, 1, 1, 0, 0, 0, 0}, {0, 0, 1, 0, 10, 0, 0}};
        for (int[] a : wrong) {
            CHECKS.argument("8: rod" + java.util.Arrays.toString(a),
                () -> x.rod(a[0], a[1], a[2], a[3], a[4], a[5], a[6]));
        }
        x.run(1);
        due("8: after wrong ones", x.told(0, 3), 10000500);
    }

    private static void rodThatIsNone() {
        TankLayers x = oneTank(10, 0);
        x.heat(0, 0, 10, 5);
        x.rod(0, 3, 8, 0, 0, 100, 200);
        x.run(3);
        row("8: without heat it is none, and cuts nothing", x, 0, 10, 5);
        due("8: none is not on", x.told(0, 6), 0);
        due("8: none is never on", x.told(0, 5), 0);
        x.rod(0, 0, 10, 10, 0, 100, 200);
        x.run(2);
        x.rod(0, 0, 10, 0, 0, 100, 200);
        due("8: taken away it is off", x.told(0, 6), 0);
        x.run(2);
        due("8: taken away it gives nothing", x.told(0, 3), 20);
        due("8: taken away it is not on", x.told(0, 5), 2);
    }

    private static void draws() {
        TankLayers x = oneTank(50, 100);
        x.tank(10, 0);
        due("9: nothing before", x.draws(0, 0, 3), 0);
        due("9: what was", x.draws(0, 0, 50), 3);
        due("9: the last minute", x.draws(0, 1439, 1), 0);
        due("9: of another tank", x.draws(1, 1439, 10), 0);
        for (int k = 1; k <= 38; k++) {
            due("9: minute " + k, x.draws(0, 10 * k, k), 0);
        }
        CHECKS.state("9: the 41st", () -> x.draws(0, 1, 1));
        due("9: nothing is no draw", x.draws(0, 1, 0), 0);
        due("9: one that is there", x.draws(0, 380, 7), 38);
        due("9: one less", x.draws(0, 20, 0), 2);
        due("9: it is gone", x.draws(0, 20, 0), 0);
        due("9: the last one is there", x.draws(0, 380, 1), 7);
        due("9: one part is a draw", x.draws(0, 380, 8), 1);
        due("9: one more again", x.draws(0, 21, 4), 0);
        CHECKS.state("9: the 41st again", () -> x.draws(0, 20, 1));
        due("9: another tank has its own", x.draws(1, 20, 1), 0);
        int[][] wrong = {{2, 0, 0}, {-1, 0, 0}, {4, 0, 0}, {LEAST, 0, 0}, {0, -1, 0}, {0, 1440, 0}, {0, LEAST, 0},
            {0, MOST, 0}, {0, 20, -1}, {0, 20, 51}, {0, 20, LEAST}, {0, 20, MOST}, {1, 20, 11}};
        for (int[] a : wrong) {
            CHECKS.argument("9: draws" + java.util.Arrays.toString(a), () -> x.draws(a[0], a[1], a[2]));
        }
        x.run(21);
        due("9: drawn", x.told(0, 1), 1 + 4);
        due("9: the heat of this", x.told(0, 2), 500);
        row("9: cold came in below", x, 0, 5, 0, 45, 4500);
        due("9: drawn of the other", x.told(1, 1), 1);
    }

    private static void run() {
        TankLayers x = oneTank(10, 0);
        int[] wrong = {0, -1, 301, LEAST, MOST};
        for (int n : wrong) {
            CHECKS.argument("10: run(" + n + ")", () -> x.run(n));
        }
        x.draws(0, 0, 2);
        x.draws(0, 1, 1);
        due("10: one", x.run(1), 1);
        due("10: the first minute is 1", x.told(0, 1), 1);
        for (int k = 1; k <= 4; k++) {
            due("10: three hundred", x.run(300), 1 + 300 * k);
        }
        x.run(238);
        due("10: before the day's end", x.told(0, 1), 1);
        due("10: the day's end", x.run(1), 1440);
        due("10: minute 0 is 1440", x.told(0, 1), 3);
        due("10: the next day", x.run(1), 1441);
        due("10: minute 1 again", x.told(0, 1), 4);
        for (int k = 1; k <= 11; k++) {
            x.run(300);
        }
        due("10: on", x.run(258), 4999);
        CHECKS.state("10: above 5000", () -> x.run(2));
        CHECKS.state("10: far above 5000", () -> x.run(300));
        CHECKS.argument("10: wrong above 5000", () -> x.run(301));
        due("10: drawn in three days more", x.told(0, 1), 10);
        due("10: up to 5000", x.run(1), 5000);
        CHECKS.state("10: no more", () -> x.run(1));
        CHECKS.argument("10: wrong at 5000", () -> x.run(0));
        due("10: other calls go on", x.charge(0, 0, 10, 1), 0);
    }

    private static void orderOfAMinute() {
        TankLayers x = oneTank(10, 20);
        x.tank(10, 0);
        x.draws(0, 1, 5);
        x.rod(0, 0, 5, 100, 0, 20, 200);
        x.loses(0, 0, 1, 2);
        x.run(1);
        // The draw leaves 5:0 5:100, so the sensor has 0; the rod makes 5:100 5:100, one layer of 200; half is lost.
        row("10: draw, rod, loss", x, 0, 10, 100);
        due("10: the draw before the rod", x.told(0, 2), 100);
        due("10: the rod after the draw", x.told(0, 5), 1);
        due("10: the loss after the rod", x.told(0, 4), 100);
        row("10: the other tank rests", x, 1, 10, 0);
        x.rod(1, 0, 10, 10, 0, 1, 2);
        x.draws(1, 2, 10);
        x.cold(50);
        x.run(2);
        due("10: the sensor sees what came in", x.told(1, 5), 0);
        row("10: what came in", x, 1, 10, 500);
    }

    private static void layers() {
        TankLayers x = oneTank(10, 5);
        due("11: one", x.layers(0), 1);
        x.charge(0, 0, 1, 4);
        due("11: two", x.layers(0), 2);
        x.tank(10, 5);
        due("11: of the other", x.layers(1), 1);
        int[] wrong = {-1, 2, 3, 4, LEAST, MOST};
        for (int tank : wrong) {
            CHECKS.argument("11: layers(" + tank + ")", () -> x.layers(tank));
        }
    }

    private static void layer() {
        TankLayers x = oneTank(10, 5);
        x.charge(0, 0, 1, -4);
        due("12: volume of the lowest", x.layer(0, 0, 0), 1);
        due("12: heat of the lowest", x.layer(0, 0, 1), -4);
        due("12: volume of the uppermost", x.layer(0, 1, 0), 9);
        due("12: heat of the uppermost", x.layer(0, 1, 1), 45);
        int[][] wrong = {{1, 0, 0}, {-1, 0, 0}, {4, 0, 0}, {MOST, 0, 0}, {0, -1, 0}, {0, 2, 0}, {0, 2, 1}, {0, 40, 0},
            {0, 100, 0}, {0, LEAST, 0}, {0, MOST, 0}, {0, 0, -1}, {0, 0, 2}, {0, 0, LEAST}, {0, 0, MOST}};
        for (int[] a : wrong) {
            CHECKS.argument("12: layer" + java.util.Arrays.toString(a), () -> x.layer(a[0], a[1], a[2]));
        }
        x.charge(0, 0, 10, 5);
        CHECKS.argument("12: a layer that was", () -> x.layer(0, 1, 0));
    }

    private static void sensor() {
        TankLayers x = oneTank(10, 0);
        x.heat(0, 0, 4, -5);
        x.heat(0, 4, 10, 11);
        due("13: rounded to lesser numbers", x.sensor(0, 0), -2);
        due("13: just below the border", x.sensor(0, 3), -2);
        due("13: of two that meet the upper one", x.sensor(0, 4), 1);
        due("13: at the top", x.sensor(0, 9), 1);
        int[][] wrong = {{0, -1}, {0, 10}, {0, 11}, {0, LEAST}, {0, MOST}, {1, 0}, {-1, 0}, {4, 0}};
        for (int[] a : wrong) {
            CHECKS.argument("13: sensor" + java.util.Arrays.toString(a), () -> x.sensor(a[0], a[1]));
        }
    }

    private static void warm() {
        TankLayers x = oneTank(10, 0);
        x.heat(0, 0, 4, -5);
        x.heat(0, 4, 10, 12);
        due("14: as warm", x.warm(0, 2), 6);
        due("14: not as warm", x.warm(0, 3), 0);
        due("14: below 0, not quite", x.warm(0, -1), 6);
        due("14: below 0, warmer", x.warm(0, -2), 10);
        due("14: the least", x.warm(0, -1000), 10);
        due("14: the most", x.warm(0, 200000), 0);
        TankLayers y = oneTank(100000, 200000);
        due("14: as warm as the most", y.warm(0, 200000), 100000);
        y.charge(0, 0, 30000, 199999);
        due("14: part of a large one", y.warm(0, 200000), 70000);
        int[][] wrong = {{0, -1001}, {0, 200001}, {0, LEAST}, {0, MOST}, {1, 0}, {-1, 0}, {4, 0}};
        for (int[] a : wrong) {
            CHECKS.argument("14: warm" + java.util.Arrays.toString(a), () -> x.warm(a[0], a[1]));
        }
    }

    private static void told() {
        TankLayers x = oneTank(10, 7);
        x.tank(20, 3);
        for (int what = 1; what <= 6; what++) {
            due("15: at first " + what, x.told(0, what), 0);
        }
        due("15: heat in all", x.told(0, 0), 70);
        due("15: heat in all of the other", x.told(1, 0), 60);
        x.charge(0, 0, 3, 1);
        x.round(0, 1, 2);
        x.heat(0, 0, 10, 1000);
        due("15: heat in all after calls", x.told(0, 0), 70 - 21 + 3 - 14 + 6 + 1000);
        for (int what = 1; what <= 6; what++) {
            due("15: only minutes count " + what, x.told(0, what), 0);
        }
        TankLayers y = oneTank(10, 7);
        y.tank(10, 7);
        y.draws(0, 1, 4);
        y.draws(0, 2, 10);
        y.rod(0, 0, 10, 30, 0, 5, 100);
        y.loses(0, 0, 1, 10);
        y.cold(1);
        y.run(1);
        // 4:4 6:42; the rod gives 12 and 18: 4:16 6:60; 1 and 6 are lost: 4:15 6:54.
        long[] first = {69, 4, 28, 30, 7, 1, 1};
        for (int what = 0; what <= 6; what++) {
            due("15: after a minute " + what, y.told(0, what), first[what]);
        }
        y.run(1);
        // All 69 are drawn: 10:10; the rod, still on, gives 30: 10:40; 4 are lost.
        long[] second = {36, 14, 97, 60, 11, 2, 1};
        for (int what = 0; what <= 6; what++) {
            due("15: after two minutes " + what, y.told(0, what), second[what]);
            due("15: of the other " + what, y.told(1, what), what == 0 ? 70 : 0);
        }
        int[][] wrong = {{0, -1}, {0, 7}, {0, LEAST}, {0, MOST}, {2, 0}, {-1, 0}, {4, 0}, {MOST, 0}};
        for (int[] a : wrong) {
            CHECKS.argument("15: told" + java.util.Arrays.toString(a), () -> x.told(a[0], a[1]));
        }
    }

    /** The same run twice, once with wrong calls between its calls: it must come to the same. */
    private static void throwingChangesNothing() {
        TankLayers still = new TankLayers();
        TankLayers vexed = new TankLayers();
        for (int step = 0; step < 60; step++) {
            due("throwing: step " + step, step(vexed, step), step(still, step));
            vex(vexed);
        }
        for (int tank = 0; tank < 4; tank++) {
            due("throwing: layers", vexed.layers(tank), still.layers(tank));
            for (int k = 0; k < still.layers(tank) && k < vexed.layers(tank); k++) {
                due("throwing: volume", vexed.layer(tank, k, 0), still.layer(tank, k, 0));
                due("throwing: heat", vexed.layer(tank, k, 1), still.layer(tank, k, 1));
            }
            for (int what = 0; what <= 6; what++) {
                due("throwing: told " + what, vexed.told(tank, what), still.told(tank, what));
            }
            for (int minute = 0; minute < 60; minute++) {
                due("throwing: draws at " + minute, vexed.draws(tank, minute, 0), still.draws(tank, minute, 0));
            }
        }
        due("throwing: cold", vexed.cold(0), still.cold(0));
        due("throwing: time", vexed.run(1), still.run(1));
    }

    private static long step(TankLayers x, int step) {
        switch (step) {
            case 0: return x.tank(100, 50);
            case 1: return x.tank(30, 80);
            case 2: return x.tank(11, 9);
            case 3: return x.tank(10, 4);
            case 4: return x.cold(3);
            case 5: x.rod(0, 0, 40, 900, 20, 60, 70); return 0;
            case 6: x.loses(1, 10, 1, 9); return 0;
            case 7: return x.round(1, 0, 13);
            case 8: return x.heat(0, 10, 55, 3331);
            case 9: return x.charge(2, 5, 3, 17);
            default: return step < 50 ? x.draws(0, step, step) : x.run(7);
        }
    }

    private static void vex(TankLayers x) {
        int[] numbers = {-1, 4, LEAST, MOST};
        for (int n : numbers) {
            CHECKS.argument("throwing: charge", () -> x.charge(n, 0, 1, 1));
            CHECKS.argument("throwing: round", () -> x.round(0, n, 1));
            CHECKS.argument("throwing: rod", () -> x.rod(n, 0, 1, 1, 0, 0, 0));
        }
        CHECKS.argument("throwing: tank", () -> x.tank(10, 200001));
        CHECKS.argument("throwing: cold", () -> x.cold(200001));
        CHECKS.argument("throwing: charge's last", () -> x.charge(0, 0, 1, -1001));
        CHECKS.argument("throwing: round's last", () -> x.round(0, 1, 31));
        CHECKS.argument("throwing: round of one", () -> x.round(0, 0, 1));
        CHECKS.argument("throwing: heat's last", () -> x.heat(0, 3, 7, 1000000001));
        CHECKS.argument("throwing: loses's last", () -> x.loses(1, 99, 1, 1000001));
        CHECKS.argument("throwing: rod's last", () -> x.rod(0, 1, 2, 3, 4, 5, 4));
        CHECKS.argument("throwing: draws's last", () -> x.draws(0, 12, 101));
        CHECKS.argument("throwing: run", () -> x.run(301));
    }
}
