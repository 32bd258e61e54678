/** Which error a call answers where two or three apply, and that it counts once. */
public final class ErrorOrderTest {
    private static final int LEAST = Integer.MIN_VALUE;
    private static final int MOST = Integer.MAX_VALUE;
    private static final int OUT_OF_RANGE = WellControl.OUT_OF_RANGE;
    private static final int TOO_MUCH = WellControl.TOO_MUCH;
    private static final int MISSING = WellControl.MISSING;

    public static void main(String[] args) {
        setGeometryWithSeveralWrong();
        pumpLooksAtTheRangeFirst();
        influxLooksAtTheRangeFirst();
        hydrostaticAboveWithBothWrong();
        killShoePressureLooksAtTheRangeFirst();
        killShoePressureLooksAtTheVolumeSecond();
        killShoePressureLooksAtTheDensityLast();
        scheduleLooksAtTheRangeFirst();
        aLayerLooksAtTheRangeFirst();
        Due.end();
    }

    private static void setGeometryWithSeveralWrong() {
        Refusal.due("all wrong", OUT_OF_RANGE, x -> x.setGeometry(99, 0, 4, 0));
        Refusal.due("all wrong", OUT_OF_RANGE, x -> x.setGeometry(3001, 21, 61, 3002));
        Refusal.due("all wrong", OUT_OF_RANGE, x -> x.setGeometry(LEAST, LEAST, LEAST, LEAST));
        Refusal.due("all wrong", OUT_OF_RANGE, x -> x.setGeometry(MOST, MOST, MOST, MOST));
        Refusal.due("two wrong", OUT_OF_RANGE, x -> x.setGeometry(1000, 21, 25, 1001));
    }

    /** No volume is both, but a negative one must not be taken for a great one. */
    private static void pumpLooksAtTheRangeFirst() {
        Refusal.due("pump(LEAST)", OUT_OF_RANGE, x -> x.pump(LEAST));
        Refusal.due("pump(-9001)", OUT_OF_RANGE, x -> x.pump(-9001));
        Refusal.due("pump(MOST)", TOO_MUCH, x -> x.pump(MOST));
    }

    private static void influxLooksAtTheRangeFirst() {
        int[] densities = {0, 2501, -1, LEAST, MOST};
        int[] volumes = {25001, MOST, 0, LEAST};
        for (int density : densities) {
            for (int volume : volumes) {
                Refusal.due("influx(" + volume + ", " + density + ")", OUT_OF_RANGE,
                        x -> x.influx(volume, density));
            }
        }
        Refusal.due("influx(25001, 1)", TOO_MUCH, x -> x.influx(25001, 1));
        Refusal.due("influx(25001, 2500)", TOO_MUCH, x -> x.influx(25001, 2500));
    }

    private static void hydrostaticAboveWithBothWrong() {
        Refusal.due("both wrong", OUT_OF_RANGE, x -> x.hydrostaticAbove(2, 1001));
        Refusal.due("both wrong", OUT_OF_RANGE, x -> x.hydrostaticAbove(-1, -1));
        Refusal.due("both wrong", OUT_OF_RANGE, x -> x.hydrostaticAbove(LEAST, MOST));
    }

    /** A well of 100 litres in the pipe and no kill density. */
    private static int narrowWell(WellControl x) {
        x.setFormation(60000);
        return x.setGeometry(100, 1, 5, 1);
    }

    private static void killShoePressureLooksAtTheRangeFirst() {
        int[][] wrong = {{2, 101}, {-1, 101}, {2, 100}, {0, 99}, {1, 9001}, {0, LEAST}, {1, MOST},
            {LEAST, 99}, {MOST, 9001}};
        for (int[] w : wrong) {
            String call = "killShoePressure(" + w[0] + ", " + w[1] + ")";
            Refusal.due(call, OUT_OF_RANGE, ErrorOrderTest::narrowWell,
                    x -> x.killShoePressure(w[0], w[1]));
        }
        Refusal.due("over the pipe and the range", OUT_OF_RANGE, x -> x.killShoePressure(0, 9001));
    }

    private static void killShoePressureLooksAtTheVolumeSecond() {
        for (int method = 0; method <= 1; method++) {
            int m = method;
            for (int step : new int[] {101, 501, 9000}) {
                Refusal.due("killShoePressure(" + m + ", " + step + ")", TOO_MUCH,
                        ErrorOrderTest::narrowWell, x -> x.killShoePressure(m, step));
            }
        }
    }

    private static void killShoePressureLooksAtTheDensityLast() {
        for (int method = 0; method <= 1; method++) {
            int m = method;
            Refusal.due("killShoePressure(" + m + ", 100)", MISSING, ErrorOrderTest::narrowWell,
                    x -> x.killShoePressure(m, 100));
            Refusal.due("killShoePressure(" + m + ", 9000)", MISSING, Start.WITHOUT_KILL_DENSITY,
                    x -> x.killShoePressure(m, 9000));
        }
        Refusal.due("killDensity()", MISSING, Start.WITHOUT_KILL_DENSITY, WellControl::killDensity);
    }

    private static void scheduleLooksAtTheRangeFirst() {
        Start start = Start.WITHOUT_KILL_DENSITY;
        for (int part : new int[] {-1, 101, LEAST, MOST}) {
            Refusal.due("schedule(" + part + ")", OUT_OF_RANGE, start, x -> x.schedule(part));
        }
        for (int part : new int[] {0, 1, 99, 100}) {
            Refusal.due("schedule(" + part + ")", MISSING, start, x -> x.schedule(part));
        }
    }

    private static void aLayerLooksAtTheRangeFirst() {
        int[][] wrong = {{2, 9}, {-1, 9}, {2, MOST}, {LEAST, MOST}, {2, -1}, {MOST, LEAST}, {0, -1},
            {1, LEAST}};
        for (int[] w : wrong) {
            String call = "(" + w[0] + ", " + w[1] + ")";
            Refusal.due("layerVolume" + call, OUT_OF_RANGE, x -> x.layerVolume(w[0], w[1]));
            Refusal.due("layerDensity" + call, OUT_OF_RANGE, x -> x.layerDensity(w[0], w[1]));
        }
        Refusal.due("layerVolume(0, 9)", MISSING, x -> x.layerVolume(0, 9));
        Refusal.due("layerDensity(1, MOST)", MISSING, x -> x.layerDensity(1, MOST));
    }
}
