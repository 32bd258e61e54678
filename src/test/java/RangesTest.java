import java.util.function.ToIntBiFunction;

/**
 * Every range of an argument: the last value inside it and the first one outside it at both ends, and
 * the least and the greatest int. A refused call changes nothing but its counter.
 */
public final class RangesTest {
    private static final int LEAST = Integer.MIN_VALUE;
    private static final int MOST = Integer.MAX_VALUE;

    public static void main(String[] args) {
        depth();
        pipeCapacity();
        annulusCapacity();
        shoe();
        shoeGoesWithTheNewDepth();
        mud();
        formation();
        slowPump();
        fracture();
        pumpedVolume();
        pumpedVolumeOverPipe();
        pumpedVolumeOverAnnulus();
        pumpedVolumeOverBoth();
        influxVolume();
        influxDensity();
        columnOfHydrostatic();
        columnOfHydrostaticAbove();
        metres();
        metresGoWithTheDepth();
        method();
        step();
        stepOverPipe();
        stepOverAnnulus();
        part();
        stroke();
        columnOfLayers();
        columnOfALayer();
        indexOfALayer();
        code();
        Due.end();
    }

    private static void due(String call, long got, long want) {
        Due.due(call, got, want);
    }

    private static void outside(String call, int[] values, ToIntBiFunction<WellControl, Integer> ask) {
        for (int v : values) {
            Refusal.due(call + " with " + v, -2, x -> ask.applyAsInt(x, v));
        }
    }

    // Promise 2: depth, 100 to 3000
    private static void depth() {
        WellControl x = new WellControl();
        due("depth 100", x.setGeometry(100, 9, 25, 1), 3400);
        due("its pipe", x.layerVolume(0, 0), 900);
        due("depth 3000", x.setGeometry(3000, 9, 25, 1), 102000);
        due("its annulus", x.layerVolume(1, 0), 75000);
        int[] wrong = {99, 3001, 0, -1, -100, LEAST, MOST};
        outside("setGeometry(?, 9, 25, 1)", wrong, (w, v) -> w.setGeometry(v, 9, 25, 1));
        outside("setGeometry(?, 1, 5, ?)", wrong, (w, v) -> w.setGeometry(v, 1, 5, v));
    }

    // Promise 2: pipe capacity, 1 to 20
    private static void pipeCapacity() {
        WellControl x = new WellControl();
        due("pipe capacity 1", x.setGeometry(1000, 1, 25, 400), 26000);
        due("its pipe", x.strokesToBit(1), 1000);
        due("pipe capacity 20", x.setGeometry(1000, 20, 25, 400), 45000);
        due("its pipe", x.strokesToBit(1), 20000);
        int[] wrong = {0, 21, -1, -9, LEAST, MOST};
        outside("setGeometry(1000, ?, 25, 400)", wrong, (w, v) -> w.setGeometry(1000, v, 25, 400));
    }

    // Promise 2: annulus capacity, 5 to 60
    private static void annulusCapacity() {
        WellControl x = new WellControl();
        due("annulus capacity 5", x.setGeometry(1000, 9, 5, 400), 14000);
        due("its annulus", x.layerVolume(1, 0), 5000);
        due("annulus capacity 60", x.setGeometry(1000, 9, 60, 400), 69000);
        due("its annulus", x.layerVolume(1, 0), 60000);
        int[] wrong = {4, 61, 0, -5, LEAST, MOST};
        outside("setGeometry(1000, 9, ?, 400)", wrong, (w, v) -> w.setGeometry(1000, 9, v, 400));
    }

    // Promise 2: shoe, 1 to depth
    private static void shoe() {
        int[] depths = {100, 101, 1000, 2999, 3000};
        for (int depth : depths) {
            WellControl x = new WellControl();
            due("shoe 1 in " + depth, x.setGeometry(depth, 2, 5, 1), depth * 7);
            due("shoe pressure at 1 m", x.shoePressure(), 11);
            due("shoe " + depth + " in it", x.setGeometry(depth, 2, 5, depth), depth * 7);
            due("shoe pressure at the bottom", x.shoePressure(), x.hydrostatic(1));
            int[] wrong = {0, depth + 1, -1, LEAST, MOST};
            outside("setGeometry(" + depth + ", 2, 5, ?)", wrong,
                    (w, v) -> w.setGeometry(depth, 2, 5, v));
        }
    }

    /** Not with the depth that the well has before the call. */
    private static void shoeGoesWithTheNewDepth() {
        WellControl x = new WellControl();
        due("below the present bottom", x.setGeometry(1500, 9, 25, 1500), 51000);
        due("above the present bottom", x.setGeometry(500, 9, 25, 501), -2);
        due("at the new bottom", x.setGeometry(500, 9, 25, 500), 17000);
    }

    // Promise 3: density, 1 to 2500
    private static void mud() {
        WellControl x = new WellControl();
        due("setMud(1)", x.setMud(1), 1200);
        due("setMud(2500)", x.setMud(2500), 1);
        due("setMud(2500) again", x.setMud(2500), 2500);
        outside("setMud(?)", new int[] {0, 2501, -1, -1200, LEAST, MOST}, WellControl::setMud);
    }

    // Promise 4: pressure, 0 to 60000
    private static void formation() {
        WellControl x = new WellControl();
        due("setFormation(60000)", x.setFormation(60000), 0);
        due("setFormation(0)", x.setFormation(0), 60000);
        due("setFormation(1)", x.setFormation(1), 0);
        outside("setFormation(?)", new int[] {-1, 60001, LEAST, MOST}, WellControl::setFormation);
    }

    // Promise 5: pressure, 0 to 9999
    private static void slowPump() {
        WellControl x = new WellControl();
        due("setSlowPump(9999)", x.setSlowPump(9999), 2000);
        due("setSlowPump(0)", x.setSlowPump(0), 9999);
        due("setSlowPump(1)", x.setSlowPump(1), 0);
        outside("setSlowPump(?)", new int[] {-1, 10000, LEAST, MOST}, WellControl::setSlowPump);
    }

    // Promise 6: pressure, 0 to 60000
    private static void fracture() {
        WellControl x = new WellControl();
        due("setFracture(60000)", x.setFracture(60000), 8000);
        due("setFracture(0)", x.setFracture(0), 60000);
        due("setFracture(1)", x.setFracture(1), 0);
        outside("setFracture(?)", new int[] {-1, 60001, LEAST, MOST}, WellControl::setFracture);
    }

    // Promise 7: volume, at least 1
    private static void pumpedVolume() {
        WellControl x = new WellControl();
        x.setMud(1300);
        due("pump(1)", x.pump(1), 0);
        Columns.due(x, 0, 1, 1300, 8999, 1200);
        outside("pump(?)", new int[] {0, -1, -9001, LEAST}, WellControl::pump);
    }

    // Promise 7: at most the pipe volume, here the less
    private static void pumpedVolumeOverPipe() {
        WellControl x = new WellControl();
        due("pump(9000)", x.pump(9000), 0);
        for (int v : new int[] {9001, 25000, 25001, MOST}) {
            Refusal.due("pump(" + v + ")", -3, w -> w.pump(v));
        }
    }

    // Promise 7: at most the annulus volume, here the less
    private static void pumpedVolumeOverAnnulus() {
        WellControl x = new WellControl();
        x.setGeometry(100, 20, 5, 100);
        due("pump(500)", x.pump(500), 0);
        for (int v : new int[] {501, 2000, 2001, MOST}) {
            Refusal.due("pump(" + v + ")", -3, w -> w.setGeometry(100, 20, 5, 100), w -> w.pump(v));
        }
    }

    // Promise 7: both volumes equal
    private static void pumpedVolumeOverBoth() {
        WellControl x = new WellControl();
        x.setGeometry(100, 20, 20, 100);
        due("pump(2000)", x.pump(2000), 0);
        Refusal.due("pump(2001)", -3, w -> w.setGeometry(100, 20, 20, 100), w -> w.pump(2001));
    }

    // Promise 8: volume, at least 1 and at most the annulus volume, be the pipe as it may
    private static void influxVolume() {
        WellControl x = new WellControl();
        due("influx(1, 300)", x.influx(1, 300), 0);
        Columns.due(x, 1, 24999, 1200, 1, 300);
        due("influx(25000, 300)", x.influx(25000, 300), 0);
        Columns.due(x, 1, 25000, 300);
        outside("influx(?, 300)", new int[] {0, -1, -25001, LEAST}, (w, v) -> w.influx(v, 300));
        for (int v : new int[] {25001, 34000, MOST}) {
            Refusal.due("influx(" + v + ", 300)", -3, w -> w.influx(v, 300));
        }
        x.setGeometry(100, 20, 5, 100);
        due("influx(500, 300)", x.influx(500, 300), 0);
        Refusal.due("influx(501, 300)", -3, w -> w.setGeometry(100, 20, 5, 100),
                w -> w.influx(501, 300));
    }

    // Promise 8: density, 1 to 2500
    private static void influxDensity() {
        WellControl x = new WellControl();
        due("influx(5, 1)", x.influx(5, 1), 0);
        due("influx(5, 2500)", x.influx(5, 2500), 0);
        Columns.due(x, 1, 24990, 1200, 5, 1, 5, 2500);
        outside("influx(5, ?)", new int[] {0, 2501, -1, LEAST, MOST}, (w, v) -> w.influx(5, v));
    }

    // Promise 9: column, 0 or 1
    private static void columnOfHydrostatic() {
        WellControl x = new WellControl();
        x.influx(25000, 100);
        due("hydrostatic(0)", x.hydrostatic(0), 11772);
        due("hydrostatic(1)", x.hydrostatic(1), 981);
        outside("hydrostatic(?)", new int[] {-1, 2, LEAST, MOST}, WellControl::hydrostatic);
    }

    // Promise 10: column, 0 or 1
    private static void columnOfHydrostaticAbove() {
        WellControl x = new WellControl();
        x.influx(25000, 100);
        due("hydrostaticAbove(0, 100)", x.hydrostaticAbove(0, 100), 1177);
        due("hydrostaticAbove(1, 100)", x.hydrostaticAbove(1, 100), 98);
        int[] wrong = {-1, 2, LEAST, MOST};
        outside("hydrostaticAbove(?, 100)", wrong, (w, v) -> w.hydrostaticAbove(v, 100));
        outside("hydrostaticAbove(?, 0)", wrong, (w, v) -> w.hydrostaticAbove(v, 0));
    }

    // Promise 10: metres, 0 to the depth of the well
    private static void metres() {
        WellControl x = new WellControl();
        for (int column = 0; column <= 1; column++) {
            int c = column;
            due("hydrostaticAbove(" + c + ", 0)", x.hydrostaticAbove(c, 0), 0);
            due("hydrostaticAbove(" + c + ", 1)", x.hydrostaticAbove(c, 1), 11);
            due("hydrostaticAbove(" + c + ", 999)", x.hydrostaticAbove(c, 999), 11760);
            due("hydrostaticAbove(" + c + ", 1000)", x.hydrostaticAbove(c, 1000), 11772);
            outside("hydrostaticAbove(" + c + ", ?)", new int[] {-1, 1001, LEAST, MOST},
                    (w, v) -> w.hydrostaticAbove(c, v));
        }
    }

    private static void metresGoWithTheDepth() {
        WellControl x = new WellControl();
        x.setGeometry(100, 1, 5, 1);
        due("100 of 100 m", x.hydrostaticAbove(0, 100), 1177);
        due("101 of 100 m", x.hydrostaticAbove(0, 101), -2);
        x.setGeometry(3000, 20, 60, 1);
        due("3000 of 3000 m", x.hydrostaticAbove(1, 3000), 35316);
        due("3001 of 3000 m", x.hydrostaticAbove(1, 3001), -2);
        x.undo();
        due("101 of 100 m again", x.hydrostaticAbove(1, 101), -2);
        x.undo();
        due("1000 of 1000 m again", x.hydrostaticAbove(1, 1000), 11772);
        due("1001 of 1000 m again", x.hydrostaticAbove(1, 1001), -2);
    }

    // Promise 17: method, 0 or 1
    private static void method() {
        WellControl x = new WellControl();
        x.setMud(1500);
        due("killShoePressure(0, 9000)", x.killShoePressure(0, 9000), 5886);
        due("killShoePressure(1, 9000)", x.killShoePressure(1, 9000), 4708);
        outside("killShoePressure(?, 500)", new int[] {-1, 2, LEAST, MOST},
                (w, v) -> w.killShoePressure(v, 500));
    }

    // Promise 17: step, 100 to 9000
    private static void step() {
        WellControl x = new WellControl();
        for (int method = 0; method <= 1; method++) {
            int m = method;
            due("killShoePressure(" + m + ", 100)", x.killShoePressure(m, 100), 4708);
            due("killShoePressure(" + m + ", 9000)", x.killShoePressure(m, 9000), 4708);
            outside("killShoePressure(" + m + ", ?)",
                    new int[] {99, 9001, 0, 1, -1, -100, 25001, LEAST, MOST},
                    (w, v) -> w.killShoePressure(m, v));
        }
        x.setGeometry(3000, 20, 60, 400);
        due("9000 in a great well", x.killShoePressure(1, 9000), 4708);
        due("9001 in a great well", x.killShoePressure(1, 9001), -2);
    }

    // Promise 17: step, at most the pipe volume
    private static void stepOverPipe() {
        int[][] wells = {{100, 1, 60}, {1000, 8, 60}, {2999, 3, 60}};
        for (int[] well : wells) {
            stepAtMost(well, well[0] * well[1]);
        }
    }

    // Promise 17: step, at most the annulus volume
    private static void stepOverAnnulus() {
        int[][] wells = {{100, 20, 5}, {100, 6, 5}, {1799, 20, 5}};
        for (int[] well : wells) {
            stepAtMost(well, well[0] * well[2]);
        }
    }

    private static void stepAtMost(int[] well, int most) {
        for (int method = 0; method <= 1; method++) {
            int m = method;
            WellControl x = new WellControl();
            x.setGeometry(well[0], well[1], well[2], 1);
            due("a step of " + most, x.killShoePressure(m, most), 11);
            Refusal.due("a step of " + (most + 1), -3,
                    w -> w.setGeometry(well[0], well[1], well[2], 1),
                    w -> w.killShoePressure(m, most + 1));
        }
    }

    // Promise 18: part, 0 to 100
    private static void part() {
        WellControl x = new WellControl();
        x.setFormation(13000);
        due("schedule(0)", x.schedule(0), 3228);
        due("schedule(100)", x.schedule(100), 2210);
        outside("schedule(?)", new int[] {-1, 101, LEAST, MOST}, WellControl::schedule);
    }

    // Promise 19: stroke, 1 to 100
    private static void stroke() {
        WellControl x = new WellControl();
        due("strokesToBit(1)", x.strokesToBit(1), 9000);
        due("strokesToBit(100)", x.strokesToBit(100), 90);
        outside("strokesToBit(?)", new int[] {0, 101, -1, LEAST, MOST}, WellControl::strokesToBit);
    }

    // Promise 20: column, 0 or 1
    private static void columnOfLayers() {
        WellControl x = new WellControl();
        x.influx(1, 1);
        due("layers(0)", x.layers(0), 1);
        due("layers(1)", x.layers(1), 2);
        outside("layers(?)", new int[] {-1, 2, LEAST, MOST}, WellControl::layers);
    }

    // Promises 21 and 22: column, 0 or 1
    private static void columnOfALayer() {
        WellControl x = new WellControl();
        x.influx(25000, 7);
        due("layerVolume(0, 0)", x.layerVolume(0, 0), 9000);
        due("layerVolume(1, 0)", x.layerVolume(1, 0), 25000);
        due("layerDensity(0, 0)", x.layerDensity(0, 0), 1200);
        due("layerDensity(1, 0)", x.layerDensity(1, 0), 7);
        int[] wrong = {-1, 2, LEAST, MOST};
        outside("layerVolume(?, 0)", wrong, (w, v) -> w.layerVolume(v, 0));
        outside("layerDensity(?, 0)", wrong, (w, v) -> w.layerDensity(v, 0));
    }

    // Promises 21 and 22: index, not negative; MISSING from the number of layers on
    private static void indexOfALayer() {
        WellControl x = Start.WORKED.make();
        Columns.due(x, 0, 700, 1400, 4000, 1330, 4300, 1200);
        Columns.due(x, 1, 18300, 1200, 2000, 300, 4700, 1200);
        for (int column = 0; column <= 1; column++) {
            int c = column;
            int[] wrong = {-1, -2, LEAST};
            outside("layerVolume(" + c + ", ?)", wrong, (w, v) -> w.layerVolume(c, v));
            outside("layerDensity(" + c + ", ?)", wrong, (w, v) -> w.layerDensity(c, v));
            for (int v : new int[] {3, 4, 519, 520, 521, MOST}) {
                Refusal.due("layerVolume(" + c + ", " + v + ")", -4, w -> w.layerVolume(c, v));
                Refusal.due("layerDensity(" + c + ", " + v + ")", -4, w -> w.layerDensity(c, v));
            }
            Refusal.due("layerVolume(" + c + ", 1)", -4, Start.NEW, w -> w.layerVolume(c, 1));
            Refusal.due("layerDensity(" + c + ", 1)", -4, Start.NEW, w -> w.layerDensity(c, 1));
        }
    }

    // Promise 27: code, -5 to -2
    private static void code() {
        WellControl x = Start.WORKED.make();
        for (int code = -5; code <= -2; code++) {
            due("errorCount(" + code + ")", x.errorCount(code), 1);
        }
        outside("errorCount(?)", new int[] {-1, -6, 0, 1, 2, 5, LEAST, MOST}, WellControl::errorCount);
    }
}
