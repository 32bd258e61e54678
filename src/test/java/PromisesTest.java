/** One method for each promise of the document: ordinary inputs, the edges it names, wrong inputs. */
public final class PromisesTest {
    private static final int LEAST = Integer.MIN_VALUE;
    private static final int MOST = Integer.MAX_VALUE;

    public static void main(String[] args) {
        aNewObject();
        setGeometry();
        setGeometryStartsAnew();
        setMud();
        setFormation();
        setSlowPump();
        setFracture();
        pump();
        pumpMovesLayers();
        influx();
        hydrostatic();
        hydrostaticAbove();
        drillPipePressure();
        casingPressure();
        standpipePressure();
        shoePressure();
        allowedCasingPressure();
        killDensity();
        killShoePressure();
        killShoePressureCountsSteps();
        schedule();
        strokesToBit();
        layers();
        layerVolume();
        layerDensity();
        gain();
        breaks();
        greatestShoePressure();
        undo();
        undoKeepsErrors();
        errorCount();
        digest();
        Due.end();
    }

    private static void due(String call, long got, long want) {
        Due.due(call, got, want);
    }

    /** A call that answers an error changes nothing but the counter of its code. */
    private static void refused(WellControl x, String call, long got, int code, int countBefore) {
        due(call, got, code);
        due("errorCount(" + code + ") behind " + call, x.errorCount(code), countBefore + 1);
    }

    // Promise 1
    private static void aNewObject() {
        WellControl x = new WellControl();
        due("new: layers(0)", x.layers(0), 1);
        due("new: layers(1)", x.layers(1), 1);
        due("new: layerVolume(0, 0)", x.layerVolume(0, 0), 9000);
        due("new: layerVolume(1, 0)", x.layerVolume(1, 0), 25000);
        due("new: layerDensity(0, 0)", x.layerDensity(0, 0), 1200);
        due("new: layerDensity(1, 0)", x.layerDensity(1, 0), 1200);
        due("new: hydrostaticAbove(0, 1000)", x.hydrostaticAbove(0, 1000), 11772);
        due("new: hydrostaticAbove(0, 1001)", x.hydrostaticAbove(0, 1001), -2);
        due("new: standpipePressure()", x.standpipePressure(), 2000);
        due("new: shoePressure()", x.shoePressure(), 4708);
        due("new: allowedCasingPressure()", x.allowedCasingPressure(), 8000 - 4708);
        due("new: gain()", x.gain(), 0);
        due("new: breaks()", x.breaks(), 0);
        due("new: greatestShoePressure()", x.greatestShoePressure(), 0);
        due("new: errorCount(-2)", x.errorCount(-2), 1);
        due("new: errorCount(-3)", x.errorCount(-3), 0);
        due("new: errorCount(-4)", x.errorCount(-4), 0);
        due("new: errorCount(-5)", x.errorCount(-5), 0);
        due("new: setMud(1200)", x.setMud(1200), 1200);
        due("new: setFormation(0)", x.setFormation(0), 0);
        due("new: setSlowPump(2000)", x.setSlowPump(2000), 2000);
        due("new: setFracture(8000)", x.setFracture(8000), 8000);
        due("new: undo()", new WellControl().undo(), -5);
    }

    // Promise 2
    private static void setGeometry() {
        WellControl x = new WellControl();
        int[][] good = {{100, 1, 5, 1, 600}, {3000, 20, 60, 3000, 240000}, {100, 20, 5, 100, 2500},
            {3000, 1, 60, 1, 183000}, {1234, 7, 31, 567, 46892}};
        for (int[] g : good) {
            due("setGeometry", x.setGeometry(g[0], g[1], g[2], g[3]), g[4]);
            due("volume of the pipe", x.layerVolume(0, 0), g[0] * g[1]);
            due("volume of the annulus", x.layerVolume(1, 0), g[0] * g[2]);
        }
        int[][] bad = {{99, 9, 25, 50}, {3001, 9, 25, 50}, {LEAST, 9, 25, 50}, {MOST, 9, 25, 50},
            {1000, 0, 25, 400}, {1000, 21, 25, 400}, {1000, LEAST, 25, 400}, {1000, MOST, 25, 400},
            {1000, 9, 4, 400}, {1000, 9, 61, 400}, {1000, 9, LEAST, 400}, {1000, 9, MOST, 400},
            {1000, 9, 25, 0}, {1000, 9, 25, 1001}, {1000, 9, 25, LEAST}, {1000, 9, 25, MOST}};
        for (int i = 0; i < bad.length; i++) {
            int[] b = bad[i];
            refused(x, "setGeometry, wrong " + i, x.setGeometry(b[0], b[1], b[2], b[3]), -2, i);
        }
        due("volume behind wrong calls", x.layerVolume(0, 0), 1234 * 7);
        due("depth behind wrong calls", x.hydrostaticAbove(1, 1234), 14526);
        due("undo() of the last good one", x.undo(), 3);
        due("volume behind undo", x.layerVolume(0, 0), 3000);
        due("undo() of the one before", x.undo(), 2);
        due("pipe behind undo", x.strokesToBit(1), 2000);
        due("depth behind undo", x.hydrostaticAbove(0, 101), -2);
        due("annulus behind undo", x.influx(501, 1), -3);
        due("undo()", x.undo(), 1);
        due("undo()", x.undo(), 0);
        due("shoe behind undo", x.shoePressure(), 11);
    }

    private static void setGeometryStartsAnew() {
        WellControl x = new WellControl();
        x.setFormation(13000);
        x.setSlowPump(1500);
        x.setFracture(6000);
        x.setMud(1300);
        x.influx(2000, 300);
        x.pump(4000);
        due("breaks() before", x.breaks(), 2);
        due("gain() before", x.gain(), 2000);
        due("setGeometry(500, 10, 20, 250)", x.setGeometry(500, 10, 20, 250), 15000);
        due("layers(0)", x.layers(0), 1);
        due("layers(1)", x.layers(1), 1);
        due("layerDensity(0, 0)", x.layerDensity(0, 0), 1300);
        due("layerDensity(1, 0)", x.layerDensity(1, 0), 1300);
        due("gain()", x.gain(), 0);
        due("breaks()", x.breaks(), 0);
        due("greatestShoePressure()", x.greatestShoePressure(), 0);
        due("drillPipePressure()", x.drillPipePressure(), 13000 - 6376);
        due("standpipePressure()", x.standpipePressure(), 1500 + 13000 - 6376);
        due("allowedCasingPressure()", x.allowedCasingPressure(), 6000 - 3188);
        due("undo()", x.undo(), 3);
        due("breaks() behind undo", x.breaks(), 2);
        due("gain() behind undo", x.gain(), 2000);
    }

    // Promise 3
    private static void setMud() {
        WellControl x = new WellControl();
        due("setMud(1)", x.setMud(1), 1200);
        due("setMud(2500)", x.setMud(2500), 1);
        due("setMud(1350)", x.setMud(1350), 2500);
        due("the columns stay", x.layerDensity(0, 0), 1200);
        due("the columns stay", x.layerDensity(1, 0), 1200);
        refused(x, "setMud(0)", x.setMud(0), -2, 0);
        refused(x, "setMud(2501)", x.setMud(2501), -2, 1);
        refused(x, "setMud(LEAST)", x.setMud(LEAST), -2, 2);
        refused(x, "setMud(MOST)", x.setMud(MOST), -2, 3);
        x.pump(10);
        due("the mud that is pumped", x.layerDensity(0, 0), 1350);
        due("setMud(1350)", x.setMud(1350), 1350);
        due("undo() of a call that changed nothing", x.undo(), 3);
        due("undo() of the pumping", x.undo(), 2);
        due("undo() of setMud", x.undo(), 1);
        due("the mud behind undo", x.setMud(1), 2500);
    }

    // Promise 4
    private static void setFormation() {
        WellControl x = new WellControl();
        due("setFormation(60000)", x.setFormation(60000), 0);
        due("casingPressure()", x.casingPressure(), 60000 - 11772);
        due("setFormation(0)", x.setFormation(0), 60000);
        due("setFormation(15000)", x.setFormation(15000), 0);
        refused(x, "setFormation(-1)", x.setFormation(-1), -2, 0);
        refused(x, "setFormation(60001)", x.setFormation(60001), -2, 1);
        refused(x, "setFormation(LEAST)", x.setFormation(LEAST), -2, 2);
        refused(x, "setFormation(MOST)", x.setFormation(MOST), -2, 3);
        due("drillPipePressure()", x.drillPipePressure(), 15000 - 11772);
        due("undo()", x.undo(), 2);
        due("undo()", x.undo(), 1);
        due("setFormation(3) behind undo", x.setFormation(3), 60000);
    }

    // Promise 5
    private static void setSlowPump() {
        WellControl x = new WellControl();
        due("setSlowPump(9999)", x.setSlowPump(9999), 2000);
        due("setSlowPump(0)", x.setSlowPump(0), 9999);
        due("standpipePressure()", x.standpipePressure(), 0);
        due("setSlowPump(700)", x.setSlowPump(700), 0);
        refused(x, "setSlowPump(-1)", x.setSlowPump(-1), -2, 0);
        refused(x, "setSlowPump(10000)", x.setSlowPump(10000), -2, 1);
        refused(x, "setSlowPump(LEAST)", x.setSlowPump(LEAST), -2, 2);
        refused(x, "setSlowPump(MOST)", x.setSlowPump(MOST), -2, 3);
        due("standpipePressure()", x.standpipePressure(), 700);
        due("undo()", x.undo(), 2);
        due("standpipePressure() behind undo", x.standpipePressure(), 0);
    }

    // Promise 6
    private static void setFracture() {
        WellControl x = new WellControl();
        due("setFracture(60000)", x.setFracture(60000), 8000);
        due("setFracture(0)", x.setFracture(0), 60000);
        due("setFracture(4709)", x.setFracture(4709), 0);
        refused(x, "setFracture(-1)", x.setFracture(-1), -2, 0);
        refused(x, "setFracture(60001)", x.setFracture(60001), -2, 1);
        refused(x, "setFracture(LEAST)", x.setFracture(LEAST), -2, 2);
        refused(x, "setFracture(MOST)", x.setFracture(MOST), -2, 3);
        due("allowedCasingPressure()", x.allowedCasingPressure(), 1);
        due("setFracture alone checks no shoe", x.breaks(), 0);
        due("undo()", x.undo(), 2);
        due("allowedCasingPressure() behind undo", x.allowedCasingPressure(), -4708);
    }

    // Promise 7
    private static void pump() {
        WellControl x = new WellControl();
        refused(x, "pump(0)", x.pump(0), -2, 0);
        refused(x, "pump(-1)", x.pump(-1), -2, 1);
        refused(x, "pump(LEAST)", x.pump(LEAST), -2, 2);
        refused(x, "pump(9001)", x.pump(9001), -3, 0);
        refused(x, "pump(MOST)", x.pump(MOST), -3, 1);
        due("nothing was saved", x.undo(), -5);
        x.setFormation(14000);
        x.setMud(1800);
        due("pump(9000), all of the pipe", x.pump(9000), 14000 - 11772);
        due("layers(0)", x.layers(0), 1);
        due("pump(1)", x.pump(1), 2228);
        due("pump(8999)", x.pump(8999), 14000 - 13890);
        due("undo()", x.undo(), 3);
        due("layers(1) behind undo", x.layers(1), 2);
        due("layerVolume(1, 1) behind undo", x.layerVolume(1, 1), 1);

        WellControl wide = new WellControl();
        wide.setGeometry(100, 20, 5, 50);
        due("pump(501) over the annulus", wide.pump(501), -3);
        wide.setMud(2000);
        due("pump(500), all of the annulus", wide.pump(500), 0);
        due("layerVolume(0, 1)", wide.layerVolume(0, 1), 1500);
        due("layers(1)", wide.layers(1), 1);
    }

    private static void pumpMovesLayers() {
        WellControl x = new WellControl();
        x.setGeometry(100, 2, 5, 50);
        int[] muds = {1300, 1400, 1500};
        for (int mud : muds) {
            x.setMud(mud);
            x.pump(50);
        }
        Columns.due(x, 0, 50, 1500, 50, 1400, 50, 1300, 50, 1200);
        Columns.due(x, 1, 500, 1200);
        x.pump(130);
        Columns.due(x, 0, 180, 1500, 20, 1400);
        Columns.due(x, 1, 420, 1200, 50, 1300, 30, 1400);
        x.influx(10, 1400);
        x.influx(5, 900);
        Columns.due(x, 1, 405, 1200, 50, 1300, 40, 1400, 5, 900);
        x.pump(25);
        Columns.due(x, 0, 200, 1500);
        Columns.due(x, 1, 380, 1200, 50, 1300, 40, 1400, 5, 900, 20, 1400, 5, 1500);
        x.setMud(1200);
        x.pump(200);
        Columns.due(x, 0, 200, 1200);
        Columns.due(x, 1, 180, 1200, 50, 1300, 40, 1400, 5, 900, 20, 1400, 205, 1500);
        x.pump(200);
        Columns.due(x, 1, 30, 1300, 40, 1400, 5, 900, 20, 1400, 205, 1500, 200, 1200);
        x.pump(70);
        Columns.due(x, 1, 5, 900, 20, 1400, 205, 1500, 270, 1200);
    }

    // Promise 8
    private static void influx() {
        WellControl x = new WellControl();
        refused(x, "influx(0, 300)", x.influx(0, 300), -2, 0);
        refused(x, "influx(LEAST, 300)", x.influx(LEAST, 300), -2, 1);
        refused(x, "influx(5, 0)", x.influx(5, 0), -2, 2);
        refused(x, "influx(5, 2501)", x.influx(5, 2501), -2, 3);
        refused(x, "influx(5, LEAST)", x.influx(5, LEAST), -2, 4);
        refused(x, "influx(25001, 0), the range first", x.influx(25001, 0), -2, 5);
        refused(x, "influx(25001, 300)", x.influx(25001, 300), -3, 0);
        refused(x, "influx(MOST, 300)", x.influx(MOST, 300), -3, 1);
        due("nothing was saved", x.undo(), -5);
        due("gain()", x.gain(), 0);
        x.setFormation(13000);
        due("influx(2000, 300)", x.influx(2000, 300), 1935);
        Columns.due(x, 0, 9000, 1200);
        Columns.due(x, 1, 23000, 1200, 2000, 300);
        due("influx(1, 1)", x.influx(1, 1), 1935);
        due("influx(25000, 2500), all of it", x.influx(25000, 2500), 0);
        Columns.due(x, 1, 25000, 2500);
        due("undo()", x.undo(), 3);
        Columns.due(x, 1, 22999, 1200, 2000, 300, 1, 1);
        due("influx(1, 1200)", x.influx(1, 1200), 1935);
        due("influx(25000, 1)", x.influx(25000, 1), 13000 - 9);
    }

    // Promise 9
    private static void hydrostatic() {
        WellControl x = new WellControl();
        x.setMud(1330);
        x.pump(4000);
        due("hydrostatic(0)", x.hydrostatic(0), 12338);
        due("hydrostatic(1)", x.hydrostatic(1), 11772);
        x.influx(2000, 300);
        due("hydrostatic(1)", x.hydrostatic(1), 11065);
        refused(x, "hydrostatic(2)", x.hydrostatic(2), -2, 0);
        refused(x, "hydrostatic(-1)", x.hydrostatic(-1), -2, 1);
        refused(x, "hydrostatic(LEAST)", x.hydrostatic(LEAST), -2, 2);
        refused(x, "hydrostatic(MOST)", x.hydrostatic(MOST), -2, 3);
        x.setMud(2500);
        x.setGeometry(3000, 20, 60, 1);
        due("hydrostatic(0), the greatest", x.hydrostatic(0), 73575);
        due("hydrostatic(1), the greatest", x.hydrostatic(1), 73575);
        x.setMud(1);
        x.setGeometry(100, 1, 5, 1);
        due("hydrostatic(0), the least", x.hydrostatic(0), 0);
        x.setMud(158);
        x.setGeometry(100, 1, 5, 1);
        due("154.998 is rounded down", x.hydrostatic(0), 154);
        due("154.998 is rounded down", x.hydrostaticAbove(0, 100), 154);
    }

    // Promise 10
    private static void hydrostaticAbove() {
        WellControl x = new WellControl();
        x.setMud(2000);
        x.pump(4500);
        x.influx(12500, 600);
        due("hydrostaticAbove(0, 0)", x.hydrostaticAbove(0, 0), 0);
        due("hydrostaticAbove(0, 1)", x.hydrostaticAbove(0, 1), 19);
        due("hydrostaticAbove(0, 500)", x.hydrostaticAbove(0, 500), 9810);
        due("hydrostaticAbove(0, 501)", x.hydrostaticAbove(0, 501), 9821);
        due("hydrostaticAbove(0, 1000)", x.hydrostaticAbove(0, 1000), 15696);
        due("hydrostaticAbove(1, 0)", x.hydrostaticAbove(1, 0), 0);
        due("hydrostaticAbove(1, 500)", x.hydrostaticAbove(1, 500), 5886);
        due("hydrostaticAbove(1, 600)", x.hydrostaticAbove(1, 600), 6474);
        due("hydrostaticAbove(1, 1000)", x.hydrostaticAbove(1, 1000), 8829);
        refused(x, "hydrostaticAbove(-1, 5)", x.hydrostaticAbove(-1, 5), -2, 0);
        refused(x, "hydrostaticAbove(2, 5)", x.hydrostaticAbove(2, 5), -2, 1);
        refused(x, "hydrostaticAbove(0, -1)", x.hydrostaticAbove(0, -1), -2, 2);
        refused(x, "hydrostaticAbove(1, 1001)", x.hydrostaticAbove(1, 1001), -2, 3);
        refused(x, "hydrostaticAbove(1, MOST)", x.hydrostaticAbove(1, MOST), -2, 4);
        refused(x, "hydrostaticAbove(LEAST, LEAST)", x.hydrostaticAbove(LEAST, LEAST), -2, 5);
        x.setGeometry(2000, 9, 25, 400);
        due("hydrostaticAbove(1, 2000) in a deeper well", x.hydrostaticAbove(1, 2000), 39240);
    }

    // Promise 11
    private static void drillPipePressure() {
        WellControl x = new WellControl();
        x.setFormation(11772);
        due("drillPipePressure(), balanced", x.drillPipePressure(), 0);
        x.setFormation(11773);
        due("drillPipePressure(), 1 over", x.drillPipePressure(), 1);
        x.setFormation(11771);
        due("drillPipePressure(), 1 under", x.drillPipePressure(), 0);
        x.setFormation(13000);
        x.setMud(1330);
        x.pump(4000);
        due("drillPipePressure()", x.drillPipePressure(), 662);
        x.influx(3000, 100);
        due("an influx leaves it", x.drillPipePressure(), 662);
    }

    // Promise 12
    private static void casingPressure() {
        WellControl x = new WellControl();
        due("casingPressure()", x.casingPressure(), 0);
        x.setFormation(11773);
        due("casingPressure(), 1 over", x.casingPressure(), 1);
        x.influx(2000, 300);
        due("casingPressure() with gas", x.casingPressure(), 11773 - 11065);
        x.setFormation(11065);
        due("casingPressure(), balanced", x.casingPressure(), 0);
        x.setFormation(11064);
        due("casingPressure(), 1 under", x.casingPressure(), 0);
    }

    // Promise 13
    private static void standpipePressure() {
        WellControl x = new WellControl();
        due("standpipePressure()", x.standpipePressure(), 2000);
        x.setFormation(13000);
        due("standpipePressure()", x.standpipePressure(), 3228);
        x.setSlowPump(9999);
        x.setFormation(60000);
        due("standpipePressure()", x.standpipePressure(), 9999 + 48228);
        x.setSlowPump(0);
        x.setFormation(5);
        due("standpipePressure()", x.standpipePressure(), 0);
    }

    // Promise 14
    private static void shoePressure() {
        WellControl x = new WellControl();
        due("shoePressure()", x.shoePressure(), 4708);
        x.setFormation(13000);
        x.influx(2000, 300);
        due("shoePressure()", x.shoePressure(), 6643);
        x.influx(20000, 100);
        due("the gas is above the shoe", x.shoePressure(), 13000 - 2432 + 1844);
        x.setMud(2500);
        x.setGeometry(3000, 20, 60, 3000);
        due("the shoe at the bottom", x.shoePressure(), 73575);
        x.setGeometry(3000, 20, 60, 1);
        due("the shoe at 1 m", x.shoePressure(), 24);
    }

    // Promise 15
    private static void allowedCasingPressure() {
        WellControl x = new WellControl();
        due("allowedCasingPressure()", x.allowedCasingPressure(), 3292);
        x.setFracture(4708);
        due("allowedCasingPressure()", x.allowedCasingPressure(), 0);
        x.setFracture(4706);
        due("negative, no error", x.allowedCasingPressure(), -2);
        x.setFracture(4704);
        due("negative, no error", x.allowedCasingPressure(), -4);
        for (int code = -5; code <= -2; code++) {
            due("errorCount(" + code + ")", x.errorCount(code), 0);
        }
        x.influx(25000, 100);
        due("with gas", x.allowedCasingPressure(), 4704 - 392);
        x.setFormation(60000);
        due("the formation is not in it", x.allowedCasingPressure(), 4704 - 392);
    }

    // Promise 16
    private static void killDensity() {
        WellControl x = new WellControl();
        int[][] pairs = {{0, 1}, {9, 1}, {10, 2}, {13000, 1326}, {24524, 2500}, {24525, 2500},
            {24526, -4}, {60000, -4}};
        for (int[] p : pairs) {
            x.setFormation(p[0]);
            due("killDensity() at " + p[0], x.killDensity(), p[1]);
        }
        due("each MISSING counts", x.errorCount(-4), 2);
        x.setGeometry(3000, 3, 7, 5);
        due("killDensity() at 60000, 3000 m", x.killDensity(), 2039);
        x.setFormation(981 * 3);
        due("exactly a density", x.killDensity(), 100);
        x.setFormation(981 * 3 + 1);
        due("just over a density", x.killDensity(), 101);
        x.setGeometry(139, 3, 7, 5);
        x.setFormation(2674);
        due("1961 lacks a hundred-thousandth", x.killDensity(), 1962);
        x.setGeometry(3000, 3, 7, 5);
        x.setFormation(981 * 3 + 1);
        x.setMud(7);
        x.influx(9, 9);
        x.pump(500);
        due("the columns are not in it", x.killDensity(), 101);
    }

    // Promise 17
    private static void killShoePressure() {
        WellControl x = new WellControl();
        x.setFormation(13000);
        x.influx(2000, 300);
        long before = x.digest();
        due("killShoePressure(0, 1000)", x.killShoePressure(0, 1000), 6643);
        due("killShoePressure(1, 100)", x.killShoePressure(1, 100), 6643);
        due("killShoePressure(0, 9000)", x.killShoePressure(0, 9000), 6643);
        due("nothing is changed", x.digest(), before);
        refused(x, "killShoePressure(-1, 500)", x.killShoePressure(-1, 500), -2, 0);
        refused(x, "killShoePressure(2, 500)", x.killShoePressure(2, 500), -2, 1);
        refused(x, "killShoePressure(0, 99)", x.killShoePressure(0, 99), -2, 2);
        refused(x, "killShoePressure(1, 9001)", x.killShoePressure(1, 9001), -2, 3);
        refused(x, "killShoePressure(LEAST, MOST)", x.killShoePressure(LEAST, MOST), -2, 4);
        refused(x, "killShoePressure(1, LEAST)", x.killShoePressure(1, LEAST), -2, 5);
        x.setFormation(30000);
        refused(x, "no kill density", x.killShoePressure(0, 9000), -4, 0);
        refused(x, "the range before the density", x.killShoePressure(2, 9000), -2, 6);
        x.setGeometry(100, 20, 5, 1);
        refused(x, "over the annulus, before the density", x.killShoePressure(1, 501), -3, 0);
        refused(x, "the range before the volume", x.killShoePressure(3, 501), -2, 7);
        refused(x, "the annulus takes it", x.killShoePressure(1, 500), -4, 1);
        x.setGeometry(100, 1, 60, 1);
        refused(x, "over the pipe", x.killShoePressure(0, 101), -3, 1);
        refused(x, "the pipe takes it", x.killShoePressure(0, 100), -4, 2);
    }

    /**
     * The greatest pressure is found only if every step is made, and none too many: the last step
     * brings the heaviest mud to the shoe, or the first one brings the gas out.
     */
    private static void killShoePressureCountsSteps() {
        WellControl x = new WellControl();
        x.setGeometry(100, 10, 10, 100);
        x.setFormation(2000);
        due("killDensity()", x.killDensity(), 2039);
        due("the last step fills the annulus", x.killShoePressure(1, 1000), 2000);
        due("and in portions that do not fit", x.killShoePressure(1, 999), 2000);
        x.setFormation(1);
        x.setMud(2);
        due("killDensity()", x.killDensity(), 2);
        due("the state before the first step does not count", x.killShoePressure(1, 1000), 1177);
        x.influx(1000, 1);
        due("light mud first", x.killShoePressure(1, 1000), 1177);
        x.setFormation(1000);
        x.setMud(1500);
        due("the driller's method brings the present mud", x.killShoePressure(0, 1000), 1471);
        due("wait and weight brings none of it", x.killShoePressure(1, 1000), 1177);
        x.setFormation(0);
        x.influx(1000, 2500);
        due("the greatest one seen is 2452", x.greatestShoePressure(), 2452);
        due("and is not in it", x.killShoePressure(1, 1000), 1177);
        x.setMud(1);
        x.setGeometry(100, 19, 5, 100);
        x.setMud(2500);
        due("400 litres of the mud and 100 of the kill mud", x.killShoePressure(0, 500), 1962);
        x.setMud(1);
        x.setGeometry(100, 1, 5, 1);
        due("no pressure at all", x.killShoePressure(1, 100), 0);
    }

    // Promise 18
    private static void schedule() {
        WellControl x = new WellControl();
        x.setFormation(13000);
        int[][] pairs = {{0, 3228}, {1, 3218}, {50, 2719}, {99, 2221}, {100, 2210}};
        for (int[] p : pairs) {
            due("schedule(" + p[0] + ")", x.schedule(p[0]), p[1]);
        }
        refused(x, "schedule(-1)", x.schedule(-1), -2, 0);
        refused(x, "schedule(101)", x.schedule(101), -2, 1);
        refused(x, "schedule(LEAST)", x.schedule(LEAST), -2, 2);
        refused(x, "schedule(MOST)", x.schedule(MOST), -2, 3);
        x.setFormation(24525);
        x.setSlowPump(9999);
        x.setMud(1);
        due("no overflow", x.schedule(100), 24997500);
        due("no overflow", x.schedule(99), 24747752);
        x.setFormation(24526);
        refused(x, "no kill density", x.schedule(0), -4, 0);
        refused(x, "the range first", x.schedule(101), -2, 4);
        x.setFormation(0);
        x.setSlowPump(2001);
        x.setMud(1000);
        due("downwards, rounded towards zero", x.schedule(1), 2001 - 19);
        x.setMud(1);
        due("level", x.schedule(37), 2001);
    }

    // Promise 19
    private static void strokesToBit() {
        WellControl x = new WellControl();
        int[][] pairs = {{1, 9000}, {17, 530}, {9, 1000}, {99, 91}, {100, 90}};
        for (int[] p : pairs) {
            due("strokesToBit(" + p[0] + ")", x.strokesToBit(p[0]), p[1]);
        }
        refused(x, "strokesToBit(0)", x.strokesToBit(0), -2, 0);
        refused(x, "strokesToBit(101)", x.strokesToBit(101), -2, 1);
        refused(x, "strokesToBit(-1)", x.strokesToBit(-1), -2, 2);
        refused(x, "strokesToBit(LEAST)", x.strokesToBit(LEAST), -2, 3);
        refused(x, "strokesToBit(MOST)", x.strokesToBit(MOST), -2, 4);
        x.setGeometry(101, 1, 5, 1);
        due("strokesToBit(100)", x.strokesToBit(100), 2);
    }

    // Promise 20
    private static void layers() {
        WellControl x = new WellControl();
        x.influx(5, 1200);
        due("an influx of equal density joins", x.layers(1), 1);
        x.influx(5, 1199);
        due("layers(1)", x.layers(1), 2);
        due("layers(0)", x.layers(0), 1);
        x.pump(10);
        due("equal mud joins in the pipe", x.layers(0), 1);
        due("layers(1)", x.layers(1), 3);
        refused(x, "layers(-1)", x.layers(-1), -2, 0);
        refused(x, "layers(2)", x.layers(2), -2, 1);
        refused(x, "layers(LEAST)", x.layers(LEAST), -2, 2);
        refused(x, "layers(MOST)", x.layers(MOST), -2, 3);
    }

    // Promise 21
    private static void layerVolume() {
        WellControl x = new WellControl();
        x.influx(5, 1100);
        due("layerVolume(1, 0)", x.layerVolume(1, 0), 24995);
        due("layerVolume(1, 1)", x.layerVolume(1, 1), 5);
        refused(x, "layerVolume(1, 2)", x.layerVolume(1, 2), -4, 0);
        refused(x, "layerVolume(0, 1)", x.layerVolume(0, 1), -4, 1);
        refused(x, "layerVolume(0, MOST)", x.layerVolume(0, MOST), -4, 2);
        refused(x, "layerVolume(0, -1)", x.layerVolume(0, -1), -2, 0);
        refused(x, "layerVolume(1, LEAST)", x.layerVolume(1, LEAST), -2, 1);
        refused(x, "layerVolume(2, 0)", x.layerVolume(2, 0), -2, 2);
        refused(x, "layerVolume(-1, 0)", x.layerVolume(-1, 0), -2, 3);
        refused(x, "layerVolume(2, 9), the range first", x.layerVolume(2, 9), -2, 4);
    }

    // Promise 22
    private static void layerDensity() {
        WellControl x = new WellControl();
        x.influx(5, 1100);
        due("layerDensity(1, 0)", x.layerDensity(1, 0), 1200);
        due("layerDensity(1, 1)", x.layerDensity(1, 1), 1100);
        refused(x, "layerDensity(1, 2)", x.layerDensity(1, 2), -4, 0);
        refused(x, "layerDensity(0, 1)", x.layerDensity(0, 1), -4, 1);
        refused(x, "layerDensity(0, MOST)", x.layerDensity(0, MOST), -4, 2);
        refused(x, "layerDensity(0, -1)", x.layerDensity(0, -1), -2, 0);
        refused(x, "layerDensity(1, LEAST)", x.layerDensity(1, LEAST), -2, 1);
        refused(x, "layerDensity(2, 0)", x.layerDensity(2, 0), -2, 2);
        refused(x, "layerDensity(-1, 0)", x.layerDensity(-1, 0), -2, 3);
        refused(x, "layerDensity(-1, 9), the range first", x.layerDensity(-1, 9), -2, 4);
    }

    // Promise 23
    private static void gain() {
        WellControl x = new WellControl();
        x.pump(500);
        due("pumping gains nothing", x.gain(), 0);
        x.influx(300, 20);
        x.influx(25000, 20);
        due("gain()", x.gain(), 25300);
        x.pump(9000);
        due("gain()", x.gain(), 25300);
        x.undo();
        x.undo();
        due("gain() behind undo", x.gain(), 300);
        x.setGeometry(1000, 9, 25, 400);
        due("gain() since the geometry was set", x.gain(), 0);
    }

    // Promise 24
    private static void breaks() {
        WellControl x = new WellControl();
        x.setFracture(4708);
        x.pump(1);
        due("equal does not break", x.breaks(), 0);
        x.setFracture(4707);
        due("only flow is checked", x.breaks(), 0);
        x.pump(1);
        x.influx(1, 1200);
        x.pump(0);
        x.killShoePressure(0, 1000);
        due("breaks()", x.breaks(), 2);
        x.undo();
        due("breaks() behind undo", x.breaks(), 1);
        x.setGeometry(1000, 9, 25, 400);
        due("breaks() since the geometry was set", x.breaks(), 0);
    }

    // Promise 25
    private static void greatestShoePressure() {
        WellControl x = new WellControl();
        x.setFormation(13000);
        due("no check yet", x.greatestShoePressure(), 0);
        x.influx(2000, 300);
        due("greatestShoePressure()", x.greatestShoePressure(), 6643);
        x.setFormation(0);
        x.pump(1);
        due("a smaller one does not replace it", x.greatestShoePressure(), 6643);
        x.setFormation(60000);
        x.killShoePressure(1, 1000);
        due("only flow is checked", x.greatestShoePressure(), 6643);
        x.pump(1);
        due("greatestShoePressure()", x.greatestShoePressure(), 60000 - 11065 + 4708);
        x.undo();
        due("greatestShoePressure() behind undo", x.greatestShoePressure(), 6643);
        x.setGeometry(1000, 9, 25, 400);
        due("since the geometry was set", x.greatestShoePressure(), 0);
    }

    // Promise 26
    private static void undo() {
        WellControl x = new WellControl();
        long fresh = x.digest();
        x.setMud(1300);
        due("undo()", x.undo(), 0);
        due("digest() behind undo", x.digest(), fresh);
        for (int i = 1; i <= 6; i++) {
            x.setFormation(11772 + i);
        }
        x.setFormation(-1);
        x.hydrostatic(0);
        undone(x, 3, 5);
        undone(x, 2, 4);
        x.setFormation(20000);
        undone(x, 2, 4);
        undone(x, 1, 3);
        undone(x, 0, 2);
        refused(x, "undo(), none is left", x.undo(), -5, 0);
        due("only four were saved", x.setFormation(0), 11774);

        WellControl y = new WellControl();
        y.setFormation(14000);
        y.influx(2000, 300);
        long before = y.digest();
        y.pump(4000);
        y.setGeometry(100, 1, 5, 1);
        y.undo();
        y.undo();
        due("undo restores all", y.digest(), before);
        Columns.due(y, 1, 23000, 1200, 2000, 300);
        Columns.due(y, 0, 9000, 1200);
    }

    private static void undone(WellControl x, int left, int drillPipe) {
        due("undo()", x.undo(), left);
        due("drillPipePressure() behind undo", x.drillPipePressure(), drillPipe);
    }

    private static void undoKeepsErrors() {
        WellControl x = new WellControl();
        x.setMud(1300);
        x.setMud(0);
        x.pump(9001);
        x.layerVolume(0, 5);
        x.undo();
        x.undo();
        for (int code = -5; code <= -2; code++) {
            due("errorCount(" + code + ") behind undo", x.errorCount(code), 1);
        }
    }

    // Promise 27
    private static void errorCount() {
        WellControl x = new WellControl();
        due("errorCount(-1)", x.errorCount(-1), -2);
        due("errorCount(-6)", x.errorCount(-6), -2);
        due("errorCount(0)", x.errorCount(0), -2);
        due("errorCount(2)", x.errorCount(2), -2);
        due("errorCount(LEAST)", x.errorCount(LEAST), -2);
        due("errorCount(MOST)", x.errorCount(MOST), -2);
        due("errorCount(-2)", x.errorCount(-2), 6);
        due("asking does not count", x.errorCount(-2), 6);
        x.pump(9001);
        x.layerVolume(0, 1);
        x.layerDensity(0, 1);
        x.undo();
        x.undo();
        x.undo();
        due("errorCount(-3)", x.errorCount(-3), 1);
        due("errorCount(-4)", x.errorCount(-4), 2);
        due("errorCount(-5)", x.errorCount(-5), 3);
    }

    // Promise 28
    private static void digest() {
        WellControl x = new WellControl();
        due("digest() of a new object", x.digest(), hash(0, 0, 0, 0, 1000, 9, 25, 400, 1200, 0, 2000,
                8000, 1, 9000, 1200, 1, 25000, 1200, 0, 0, 2000, 4708, 0, 0, 0, 0));
        x.setFormation(13000);
        x.setFracture(6000);
        x.setMud(1330);
        x.setSlowPump(1999);
        x.influx(2000, 300);
        x.pump(4000);
        x.pump(9001);
        x.pump(9001);
        x.layerVolume(1, 7);
        due("digest()", x.digest(), hash(0, 2, 1, 0, 1000, 9, 25, 400, 1330, 13000, 1999, 6000,
                2, 4000, 1330, 5000, 1200, 3, 19000, 1200, 2000, 300, 4000, 1200,
                662, 1935, 2661, 6643, 2000, 2, 6643, 4));
        due("digest() changes nothing", x.digest(), x.digest());
        x.undo();
        x.undo();
        x.undo();
        x.undo();
        x.undo();
        x.setMud(0);
        due("digest() with errors", x.digest(), hash(1, 2, 1, 1, 1000, 9, 25, 400, 1200, 13000, 2000,
                6000, 1, 9000, 1200, 1, 25000, 1200, 1228, 1228, 3228, 5936, 0, 0, 0, 0));
    }

    private static long hash(long... values) {
        long h = 2693;
        for (long v : values) {
            h = 31 * h + v;
        }
        return h;
    }
}
