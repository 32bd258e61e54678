/** The five examples of the document's Description. */
public final class ExamplesTest {
    public static void main(String[] args) {
        gasAtTheBottom();
        twoKillMethods();
        heavierMud();
        noSufficientDensity();
        errors();
        Due.end();
    }

    private static void gasAtTheBottom() {
        WellControl x = new WellControl();
        Due.due("1: setFormation(13000)", x.setFormation(13000), 0);
        Due.due("1: influx(2000, 300)", x.influx(2000, 300), 1935);
        Due.due("1: drillPipePressure()", x.drillPipePressure(), 1228);
        Due.due("1: casingPressure()", x.casingPressure(), 1935);
        Due.due("1: shoePressure()", x.shoePressure(), 6643);
        Due.due("1: killDensity()", x.killDensity(), 1326);
        Due.due("1: layers(1)", x.layers(1), 2);
    }

    private static void twoKillMethods() {
        WellControl x = new WellControl();
        Due.due("2: setFormation(13000)", x.setFormation(13000), 0);
        Due.due("2: influx(2000, 300)", x.influx(2000, 300), 1935);
        Due.due("2: killShoePressure(0, 1000)", x.killShoePressure(0, 1000), 6643);
        Due.due("2: killShoePressure(1, 1000)", x.killShoePressure(1, 1000), 6643);
        Due.due("2: schedule(0)", x.schedule(0), 3228);
        Due.due("2: schedule(100)", x.schedule(100), 2210);
        Due.due("2: strokesToBit(17)", x.strokesToBit(17), 530);
    }

    private static void heavierMud() {
        WellControl x = new WellControl();
        Due.due("3: setMud(1400)", x.setMud(1400), 1200);
        Due.due("3: pump(4000)", x.pump(4000), 0);
        Due.due("3: layers(0)", x.layers(0), 2);
        Due.due("3: layerVolume(0, 1)", x.layerVolume(0, 1), 5000);
        Due.due("3: layerDensity(0, 0)", x.layerDensity(0, 0), 1400);
        Due.due("3: pump(9001)", x.pump(9001), -3);
    }

    private static void noSufficientDensity() {
        WellControl x = new WellControl();
        Due.due("4: setFormation(30000)", x.setFormation(30000), 0);
        Due.due("4: killDensity()", x.killDensity(), -4);
        Due.due("4: schedule(5)", x.schedule(5), -4);
    }

    private static void errors() {
        WellControl x = new WellControl();
        Due.due("5: setMud(0)", x.setMud(0), -2);
        Due.due("5: undo()", x.undo(), -5);
    }
}
