import java.util.List;
import java.util.function.ToLongFunction;

/** An object answers 512 calls, whatever the 511 before the last one were. */
public final class LastCallTest {
    private static final int CALLS = 512;

    /** A call on the program, and the same call on the reference. */
    private record Last(String name, ToLongFunction<WellControl> program,
            ToLongFunction<ReferenceWell> reference) {
    }

    public static void main(String[] args) {
        errorsOfAllCalls();
        savedStatesOfAllCalls();
        breaksOfAllCalls();
        gainOfAllCalls();
        layersOfAllCalls();
        mudsOfAllCalls();
        killMethodsBehindLayersOfAllCalls();
        theLastOfManyKinds();
        Due.end();
    }

    private static void due(String call, long got, long want) {
        Due.due(call, got, want);
    }

    private static void errorsOfAllCalls() {
        WellControl x = new WellControl();
        for (int i = 1; i < CALLS; i++) {
            x.undo();
        }
        due("errorCount(-5) is call 512", x.errorCount(-5), CALLS - 1);
    }

    private static void savedStatesOfAllCalls() {
        WellControl x = new WellControl();
        for (int i = 1; i <= CALLS - 6; i++) {
            due("setSlowPump(" + i + ")", x.setSlowPump(i), i == 1 ? 2000 : i - 1);
        }
        for (int left = 3; left >= 0; left--) {
            due("undo()", x.undo(), left);
        }
        due("undo()", x.undo(), -5);
        due("standpipePressure() is call 512", x.standpipePressure(), CALLS - 10);
    }

    private static void breaksOfAllCalls() {
        WellControl x = new WellControl();
        x.setFracture(0);
        for (int i = 2; i < CALLS; i++) {
            x.pump(9000);
        }
        due("breaks() is call 512", x.breaks(), CALLS - 2);
    }

    private static void gainOfAllCalls() {
        WellControl x = new WellControl();
        x.setGeometry(3000, 20, 60, 3000);
        for (int i = 2; i < CALLS; i++) {
            x.influx(180000, 1 + i % 2);
        }
        due("gain() is call 512", x.gain(), (CALLS - 2) * 180000);
    }

    private static WellControl withLayers() {
        WellControl x = new WellControl();
        for (int i = 1; i < CALLS; i++) {
            x.influx(1, 300 + i % 2);
        }
        return x;
    }

    private static void layersOfAllCalls() {
        due("layers(1)", withLayers().layers(1), CALLS);
        due("the uppermost", withLayers().layerVolume(1, 0), 25000 - (CALLS - 1));
        due("the one below it", withLayers().layerVolume(1, 1), 1);
        due("the last", withLayers().layerVolume(1, CALLS - 1), 1);
        due("below the last", withLayers().layerVolume(1, CALLS), -4);
        due("the uppermost", withLayers().layerDensity(1, 0), 1200);
        due("the one below it", withLayers().layerDensity(1, 1), 301);
        due("the last but one", withLayers().layerDensity(1, CALLS - 2), 300);
        due("the last", withLayers().layerDensity(1, CALLS - 1), 301);
        due("below the last", withLayers().layerDensity(1, CALLS), -4);
        due("gain()", withLayers().gain(), CALLS - 1);
        due("undo()", withLayers().undo(), 3);
        due("hydrostatic(1)", withLayers().hydrostatic(1), 11591);
    }

    private static WellControl withMuds() {
        WellControl x = new WellControl();
        x.influx(1, 1);
        for (int i = 1; i < CALLS / 2; i++) {
            x.setMud(1200 + i);
            x.pump(1);
        }
        return x;
    }

    private static void mudsOfAllCalls() {
        due("layers(0)", withMuds().layers(0), CALLS / 2);
        due("layers(1)", withMuds().layers(1), 3);
        due("the uppermost", withMuds().layerDensity(0, 0), 1200 + CALLS / 2 - 1);
        due("the last but one", withMuds().layerDensity(0, CALLS / 2 - 2), 1201);
        due("the last", withMuds().layerVolume(0, CALLS / 2 - 1), 9000 - (CALLS / 2 - 1));
        due("below the last", withMuds().layerVolume(0, CALLS / 2), -4);
        due("pump(9000)", withMuds().pump(9000), 0);
    }

    /** A kill method adds the mud of the pipe and the kill mud to as many layers as calls can make. */
    private static void killMethodsBehindLayersOfAllCalls() {
        for (int method = 0; method <= 1; method++) {
            for (int formation : new int[] {0, 24525}) {
                WellControl x = new WellControl();
                ReferenceWell r = new ReferenceWell();
                if (formation > 0) {
                    due("setFormation", x.setFormation(formation), r.setFormation(formation));
                }
                for (int i = formation > 0 ? 2 : 1; i < CALLS; i++) {
                    due("influx", x.influx(1, 2499 + i % 2), r.influx(1, 2499 + i % 2));
                }
                due("killShoePressure(" + method + ", 500) is call 512, at " + formation,
                        x.killShoePressure(method, 500), r.killShoePressure(method, 500));
            }
        }
    }

    /** Each of them is call 512 of an object with as many layers as calls can make. */
    private static void theLastOfManyKinds() {
        List<Last> lasts = List.of(
                new Last("digest()", WellControl::digest, ReferenceWell::digest),
                new Last("pump(2000)", x -> x.pump(2000), r -> r.pump(2000)),
                new Last("influx(1, 7)", x -> x.influx(1, 7), r -> r.influx(1, 7)),
                new Last("killShoePressure(0, 100)", x -> x.killShoePressure(0, 100),
                        r -> r.killShoePressure(0, 100)),
                new Last("killShoePressure(1, 100)", x -> x.killShoePressure(1, 100),
                        r -> r.killShoePressure(1, 100)),
                new Last("killShoePressure(0, 1999)", x -> x.killShoePressure(0, 1999),
                        r -> r.killShoePressure(0, 1999)),
                new Last("layers(0)", x -> x.layers(0), r -> r.layers(0)),
                new Last("layers(1)", x -> x.layers(1), r -> r.layers(1)),
                new Last("shoePressure()", WellControl::shoePressure, ReferenceWell::shoePressure),
                new Last("undo()", WellControl::undo, ReferenceWell::undo));
        for (Last last : lasts) {
            for (int kind = 0; kind < 4; kind++) {
                lastCall(last, kind);
            }
        }
    }

    /** 2000 litres in the pipe, 6000 in the annulus; the shoe has 3000 above it. */
    private static void lastCall(Last last, int kind) {
        WellControl x = new WellControl();
        ReferenceWell r = new ReferenceWell();
        due("setGeometry", x.setGeometry(100, 20, 60, 50), r.setGeometry(100, 20, 60, 50));
        due("setFormation", x.setFormation(1900), r.setFormation(1900));
        for (int i = 3; i < CALLS; i++) {
            oneOf(kind, i, x, r);
        }
        due(last.name + " is call 512, kind " + kind, last.program.applyAsLong(x),
                last.reference.applyAsLong(r));
    }

    private static void oneOf(int kind, int i, WellControl x, ReferenceWell r) {
        int turn = kind == 0 ? 0 : kind == 1 ? 1 + i % 2 : i % 3;
        int litres = kind == 3 ? 9 : 1;
        if (turn == 0) {
            due("influx", x.influx(litres, 1 + i), r.influx(litres, 1 + i));
        } else if (turn == 1) {
            due("setMud", x.setMud(2000 - i), r.setMud(2000 - i));
        } else {
            due("pump", x.pump(litres), r.pump(litres));
        }
    }
}
