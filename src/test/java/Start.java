import java.util.function.Supplier;

/** Wells to begin with, all 1000 m deep: 9000 litres in the pipe, 25000 in the annulus. */
enum Start {
    NEW(WellControl::new),
    WORKED(Start::worked),
    UNDONE(Start::undone),
    WITHOUT_KILL_DENSITY(Start::withoutKillDensity);

    private final Supplier<WellControl> making;

    Start(Supplier<WellControl> making) {
        this.making = making;
    }

    WellControl make() {
        return making.get();
    }

    /** All settings moved, layers in both columns, four states saved, each error counted. */
    private static WellControl worked() {
        WellControl x = new WellControl();
        x.setMud(0);
        x.undo();
        x.layerVolume(0, 1);
        x.pump(9001);
        x.setFracture(6000);
        x.setSlowPump(1999);
        x.setFormation(13000);
        x.influx(2000, 300);
        x.setMud(1330);
        x.pump(4000);
        x.setMud(1400);
        x.pump(700);
        return x;
    }

    /** The states that are left to restore have another geometry. */
    private static WellControl undone() {
        WellControl x = new WellControl();
        x.setGeometry(100, 20, 5, 100);
        x.influx(499, 2500);
        x.setGeometry(1000, 9, 25, 400);
        x.influx(1, 1);
        x.setMud(2);
        x.undo();
        return x;
    }

    private static WellControl withoutKillDensity() {
        WellControl x = new WellControl();
        x.setFormation(60000);
        x.influx(25000, 1);
        return x;
    }
}
