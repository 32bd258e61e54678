/** Long runs of calls on the program and on the reference side by side; every answer must agree. */
public final class ReferenceTest {
    private static final int CALLS = 512;
    private static final int LOOKS = 13;
    private static final int[] WILD = {0, -1, 1, 2, -2, -5, -6, 99, 100, 101, 2500, 2501, 60000, 60001,
        9999, 10000, Integer.MAX_VALUE, Integer.MIN_VALUE};

    private final WellControl program = new WellControl();
    private final ReferenceWell reference = new ReferenceWell();
    private final String run;
    private long seed;

    private ReferenceTest(String run, long seed) {
        this.run = run;
        this.seed = seed;
    }

    public static void main(String[] args) {
        for (int i = 0; i < 200; i++) {
            new ReferenceTest("small well " + i, i).mixedRun(100, 140);
        }
        for (int i = 0; i < 12; i++) {
            new ReferenceTest("any well " + i, 1000 + i).mixedRun(100, 3000);
        }
        for (int i = 0; i < 6; i++) {
            new ReferenceTest("many layers " + i, 2000 + i).manyLayers(i);
        }
        new ReferenceTest("greatest well", 3000).greatestWell();
        Due.end();
    }

    /** A generator of our own, so that every run of the test makes the same calls. */
    private int below(int bound) {
        seed = seed * 6364136223846793005L + 1442695040888963407L;
        return (int) ((seed >>> 33) % bound);
    }

    private int between(int least, int greatest) {
        return least + below(greatest - least + 1);
    }

    private int usual(int least, int greatest) {
        int kind = below(40);
        if (kind == 0) {
            return WILD[below(WILD.length)];
        }
        return kind == 1 ? least - 1 : kind == 2 ? greatest + 1 : kind == 3 ? least
                : kind == 4 ? greatest : between(least, greatest);
    }

    private void compare(String call, long got, long want) {
        Due.due(run + ": " + call, got, want);
    }

    private void mixedRun(int leastDepth, int greatestDepth) {
        int depth = between(leastDepth, greatestDepth);
        int pipe = between(1, 20);
        int annulus = between(5, 60);
        int shoe = between(1, depth);
        geometry(depth, pipe, annulus, shoe);
        formation(between(0, 981 * 25 * depth / 1000));
        for (int calls = 2; calls + 3 <= CALLS && Due.wrongSoFar() < 20; calls += 3) {
            oneCall(depth, depth * pipe, depth * annulus);
            compare("digest()", program.digest(), reference.digest());
        }
    }

    private void oneCall(int depth, int pipeVolume, int annulusVolume) {
        switch (below(30)) {
            case 0 -> settings(depth);
            case 1, 2, 3, 4 -> mud(usual(1, 2500));
            case 5, 6 -> mud(between(1200, 1202));
            case 7, 8, 9, 10 -> pump(usual(1, Math.min(pipeVolume, annulusVolume)));
            case 11, 12, 13 -> pump(usual(1, 60));
            case 14, 15 -> influx(usual(1, annulusVolume), usual(1, 2500));
            case 16, 17 -> influx(usual(1, 60), between(1200, 1202));
            case 18 -> formation(usual(0, Math.min(60000, 981 * 25 * depth / 1000)));
            case 19 -> kill();
            case 20, 21 -> undo();
            default -> reading(depth);
        }
    }

    private void settings(int depth) {
        switch (below(4)) {
            case 0 -> slowPump(usual(0, 9999));
            case 1, 2 -> fracture(usual(0, 981 * 30 * depth / 1000));
            default -> geometry(usual(100, 140), usual(1, 20), usual(5, 60), usual(1, 100));
        }
    }

    private void reading(int depth) {
        switch (below(14)) {
            case 0 -> hydrostatic(usual(0, 1));
            case 1 -> hydrostaticAbove(usual(0, 1), usual(0, depth));
            case 2 -> {
                compare("drillPipePressure()", program.drillPipePressure(),
                        reference.drillPipePressure());
                compare("casingPressure()", program.casingPressure(), reference.casingPressure());
            }
            case 3 -> compare("standpipePressure()", program.standpipePressure(),
                    reference.standpipePressure());
            case 4 -> compare("shoePressure()", program.shoePressure(), reference.shoePressure());
            case 5 -> compare("allowedCasingPressure()", program.allowedCasingPressure(),
                    reference.allowedCasingPressure());
            case 6 -> compare("killDensity()", program.killDensity(), reference.killDensity());
            case 7 -> schedule(usual(0, 100));
            case 8 -> strokes(usual(1, 100));
            case 9 -> layers(usual(0, 1));
            case 10 -> layer(usual(0, 1), usual(0, 6));
            case 11 -> compare("gain()", program.gain(), reference.gain());
            case 12 -> {
                compare("breaks()", program.breaks(), reference.breaks());
                compare("greatestShoePressure()", program.greatestShoePressure(),
                        reference.greatestShoePressure());
            }
            default -> errorCount(usual(-5, -2));
        }
    }

    /** As many layers as calls can make, in several ways, with the looks behind them 512 calls in all. */
    private void manyLayers(int way) {
        geometry(100 + way, 20, 60, 60);
        for (int i = 1; i < CALLS - LOOKS; i++) {
            int turn = way == 0 ? 0 : i % (way == 1 ? 2 : 3);
            int density = 1 + i % 2500;
            if (way >= 4) {
                makeThenMove(i, way);
            } else if (turn == 0) {
                influx(1 + way % 2, density);
            } else if (turn == 1 && way != 1) {
                mud(2500 - density);
            } else {
                pump(1 + way / 2);
            }
        }
        compare("digest()", program.digest(), reference.digest());
        compare("killShoePressure(0, 100)", program.killShoePressure(0, 100),
                reference.killShoePressure(0, 100));
        compare("killShoePressure(1, 999)", program.killShoePressure(1, 999),
                reference.killShoePressure(1, 999));
        for (int i = 0; i < 5; i++) {
            undo();
            compare("digest()", program.digest(), reference.digest());
        }
    }

    private void makeThenMove(int i, int way) {
        if (i > CALLS - LOOKS - 12) {
            pump(i % 2 == 0 ? 999 : 3 * way);
        } else if (i % 2 == 0) {
            mud(1 + i % 2500);
        } else {
            pump(way);
        }
    }

    private void greatestWell() {
        geometry(3000, 20, 60, 2999);
        formation(60000);
        fracture(60000);
        influx(180000, 2500);
        influx(90001, 1);
        mud(2500);
        pump(60000);
        kill(0, 9000);
        kill(1, 9000);
        compare("digest()", program.digest(), reference.digest());
        geometry(100, 20, 5, 100);
        formation(1);
        influx(333, 7);
        pump(500);
        pump(501);
        kill(0, 500);
        kill(0, 501);
        compare("digest()", program.digest(), reference.digest());
    }

    private void geometry(int depth, int pipe, int annulus, int shoe) {
        compare("setGeometry(" + depth + ", " + pipe + ", " + annulus + ", " + shoe + ")",
                program.setGeometry(depth, pipe, annulus, shoe),
                reference.setGeometry(depth, pipe, annulus, shoe));
    }

    private void mud(int density) {
        compare("setMud(" + density + ")", program.setMud(density), reference.setMud(density));
    }

    private void formation(int pressure) {
        compare("setFormation(" + pressure + ")", program.setFormation(pressure),
                reference.setFormation(pressure));
    }

    private void slowPump(int pressure) {
        compare("setSlowPump(" + pressure + ")", program.setSlowPump(pressure),
                reference.setSlowPump(pressure));
    }

    private void fracture(int pressure) {
        compare("setFracture(" + pressure + ")", program.setFracture(pressure),
                reference.setFracture(pressure));
    }

    private void pump(int volume) {
        compare("pump(" + volume + ")", program.pump(volume), reference.pump(volume));
    }

    private void influx(int volume, int density) {
        compare("influx(" + volume + ", " + density + ")", program.influx(volume, density),
                reference.influx(volume, density));
    }

    private void kill() {
        kill(usual(0, 1), below(3) == 0 ? usual(100, 9000) : usual(100, 700));
    }

    private void kill(int method, int step) {
        compare("killShoePressure(" + method + ", " + step + ")",
                program.killShoePressure(method, step), reference.killShoePressure(method, step));
    }

    private void undo() {
        compare("undo()", program.undo(), reference.undo());
    }

    private void hydrostatic(int column) {
        compare("hydrostatic(" + column + ")", program.hydrostatic(column),
                reference.hydrostatic(column));
    }

    private void hydrostaticAbove(int column, int metres) {
        compare("hydrostaticAbove(" + column + ", " + metres + ")",
                program.hydrostaticAbove(column, metres), reference.hydrostaticAbove(column, metres));
    }

    private void schedule(int part) {
        compare("schedule(" + part + ")", program.schedule(part), reference.schedule(part));
    }

    private void strokes(int stroke) {
        compare("strokesToBit(" + stroke + ")", program.strokesToBit(stroke),
                reference.strokesToBit(stroke));
    }

    private void layers(int column) {
        compare("layers(" + column + ")", program.layers(column), reference.layers(column));
    }

    private void layer(int column, int index) {
        compare("layerVolume(" + column + ", " + index + ")", program.layerVolume(column, index),
                reference.layerVolume(column, index));
        compare("layerDensity(" + column + ", " + index + ")", program.layerDensity(column, index),
                reference.layerDensity(column, index));
    }

    private void errorCount(int code) {
        compare("errorCount(" + code + ")", program.errorCount(code), reference.errorCount(code));
    }
}
