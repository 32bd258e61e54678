/** No call throws, for any arguments in any state, not even behind the 512th call. */
public final class NeverThrowsTest {
    private static final int[] ARGUMENTS = {Integer.MIN_VALUE, -60001, -6, -5, -4, -3, -2, -1, 0, 1, 2,
        3, 5, 25, 60, 61, 99, 100, 101, 400, 1000, 2500, 2501, 3000, 9000, 9001, 60000, 180000,
        Integer.MAX_VALUE};

    public static void main(String[] args) {
        everyArgumentInManyStates();
        moreLayersThanThereIsRoom();
        Due.end();
    }

    private static void everyArgumentInManyStates() {
        WellControl x = new WellControl();
        for (int a : ARGUMENTS) {
            for (int b : ARGUMENTS) {
                for (int c = 0; c < ARGUMENTS.length; c += 3) {
                    x.setGeometry(a, b, ARGUMENTS[c], ARGUMENTS[ARGUMENTS.length - 1 - c]);
                }
                x.influx(a, b);
                x.hydrostaticAbove(a, b);
                x.killShoePressure(a, b);
                x.layerVolume(a, b);
                x.layerDensity(a, b);
                x.setMud(b);
                x.pump(a);
            }
            x.setFormation(a);
            x.setSlowPump(a);
            x.setFracture(a);
            x.hydrostatic(a);
            x.schedule(a);
            x.strokesToBit(a);
            x.layers(a);
            x.errorCount(a);
            x.undo();
            readAll(x);
        }
        Due.due("the pipe is full", Columns.volume(x, 0), x.strokesToBit(1));
    }

    private static void readAll(WellControl x) {
        x.drillPipePressure();
        x.casingPressure();
        x.standpipePressure();
        x.shoePressure();
        x.allowedCasingPressure();
        x.killDensity();
        x.gain();
        x.breaks();
        x.greatestShoePressure();
        x.digest();
    }

    private static void moreLayersThanThereIsRoom() {
        WellControl x = new WellControl();
        x.setFormation(13000);
        for (int i = 0; i < 4000; i++) {
            x.setMud(1 + i % 2500);
            x.pump(1);
            x.influx(1, 2500 - i % 2500);
            if (i % 500 == 0) {
                readAll(x);
                x.killShoePressure(i / 500 % 2, 100);
            }
        }
        full(x, 9, 25);
        x.pump(9000);
        x.pump(9000);
        x.undo();
        full(x, 9, 25);
        Due.due("pressures are those of the layers", x.hydrostaticAbove(1, 1000), x.hydrostatic(1));
    }

    /** Pipe and annulus are equally deep, so their volumes are as their capacities. */
    private static void full(WellControl x, int pipeCapacity, int annulusCapacity) {
        long pipe = Columns.volume(x, 0);
        Due.due("the pipe is full", pipe, x.strokesToBit(1));
        Due.due("the annulus is full", Columns.volume(x, 1) * pipeCapacity, pipe * annulusCapacity);
    }
}
