/** The edges of the two kill methods: how many steps, how long each, and which of them count. */
public final class KillMethodEdgesTest {
    private static final int DRILLERS = 0;
    private static final int WAIT_AND_WEIGHT = 1;

    public static void main(String[] args) {
        theLastStepIsMade();
        presentMudIsPumpedForAtLeastTheAnnulus();
        theLastStepOfPresentMudIsWhole();
        theStateBeforeTheFirstStepDoesNotCount();
        theFirstStepCounts();
        theStepsBetweenCount();
        leastAndGreatestKillDensity();
        presentMudAlreadyKills();
        nothingIsChanged();
        aMethodRunsAgain();
        Due.end();
    }

    private static void due(String call, long got, long want) {
        Due.due(call, got, want);
    }

    /**
     * The kill mud of 2039 has 60007 at the bottom, the formation 60000: only an annulus with kill mud
     * to its last metres has more than the formation. 3000 litres in the pipe, 15000 in the annulus.
     */
    private static WellControl deepWell() {
        WellControl x = new WellControl();
        x.setMud(1);
        x.setGeometry(3000, 1, 5, 3000);
        x.setFormation(60000);
        return x;
    }

    private static void theLastStepIsMade() {
        int[] steps = {3000, 2999, 2572, 2571, 2000, 1999, 1001, 1000, 999, 101, 100};
        for (int step : steps) {
            WellControl x = deepWell();
            due("wait and weight by " + step, x.killShoePressure(WAIT_AND_WEIGHT, step), 60007);
            due("the driller's by " + step, x.killShoePressure(DRILLERS, step), 60007);
        }
    }

    /**
     * 1900 litres in the pipe and 500 in the annulus, all of it of density 1, and mud of 2500: the most
     * of it that stands in the annulus behind a step tells how much was pumped before the kill mud.
     */
    private static WellControl slugWell() {
        WellControl x = new WellControl();
        x.setMud(1);
        x.setGeometry(100, 19, 5, 100);
        x.setMud(2500);
        return x;
    }

    /** In the annulus there stand, of the slug of whole steps, at most so many litres. */
    private static int pressureOfSlug(int litres) {
        return 981 * (500 + 2499 * litres) / 500000;
    }

    private static void presentMudIsPumpedForAtLeastTheAnnulus() {
        WellControl x = slugWell();
        due("500, 1 step", x.killShoePressure(DRILLERS, 500), 1962);
        due("499, 2 steps", x.killShoePressure(DRILLERS, 499), 2452);
        due("251, 2 steps", x.killShoePressure(DRILLERS, 251), 1922);
        due("250, 2 steps", x.killShoePressure(DRILLERS, 250), 1962);
        due("249, 3 steps", x.killShoePressure(DRILLERS, 249), 2452);
        due("400 litres of it", pressureOfSlug(400), 1962);
        due("392 litres of it", pressureOfSlug(392), 1922);
        due("500 litres of it", pressureOfSlug(500), 2452);
        due("wait and weight pumps none of it", x.killShoePressure(WAIT_AND_WEIGHT, 500), 0);
    }

    /** A last step of only 100 litres would leave 400 litres in the annulus at most: 1962. */
    private static void theLastStepOfPresentMudIsWhole() {
        due("400, 2 steps", slugWell().killShoePressure(DRILLERS, 400), 2452);
    }

    /** 100 litres in the pipe and 500 of the heaviest mud in the annulus. */
    private static WellControl heavyAnnulus() {
        WellControl x = new WellControl();
        x.setMud(1);
        x.setGeometry(100, 1, 5, 100);
        x.influx(500, 2500);
        return x;
    }

    private static void theStateBeforeTheFirstStepDoesNotCount() {
        WellControl x = heavyAnnulus();
        due("shoePressure() before", x.shoePressure(), 2452);
        due("greatestShoePressure() before", x.greatestShoePressure(), 2452);
        due("wait and weight", x.killShoePressure(WAIT_AND_WEIGHT, 100), 1962);
        due("the driller's", x.killShoePressure(DRILLERS, 100), 1962);
    }

    private static void theFirstStepCounts() {
        WellControl x = new WellControl();
        x.setMud(1);
        x.setGeometry(100, 5, 5, 100);
        x.influx(500, 2500);
        due("100 litres left", x.killShoePressure(WAIT_AND_WEIGHT, 400), 491);
        due("1 litre left", x.killShoePressure(WAIT_AND_WEIGHT, 499), 5);
        due("nothing left", x.killShoePressure(WAIT_AND_WEIGHT, 500), 0);
    }

    /** The heavy litres of the pipe are in the annulus only behind the second of three steps. */
    private static void theStepsBetweenCount() {
        WellControl x = new WellControl();
        x.setMud(1);
        x.setGeometry(100, 10, 5, 100);
        x.setMud(2500);
        x.pump(500);
        x.setMud(1);
        due("behind the second step", x.killShoePressure(WAIT_AND_WEIGHT, 500), 2452);
        due("behind the second step", x.killShoePressure(DRILLERS, 500), 2452);
    }

    private static void leastAndGreatestKillDensity() {
        WellControl x = new WellControl();
        x.setGeometry(1000, 9, 25, 1000);
        x.setFormation(24525);
        due("killDensity()", x.killDensity(), 2500);
        due("with 2500", x.killShoePressure(WAIT_AND_WEIGHT, 9000), 24525);
        x.setFormation(24526);
        due("with none", x.killShoePressure(WAIT_AND_WEIGHT, 9000), -4);
        x.setFormation(0);
        x.setMud(2500);
        x.influx(25000, 1);
        due("killDensity()", x.killDensity(), 1);
        due("with 1, behind the first step", x.killShoePressure(WAIT_AND_WEIGHT, 9000), 4244);
    }

    private static void presentMudAlreadyKills() {
        WellControl x = new WellControl();
        x.setFormation(11772);
        due("killDensity()", x.killDensity(), 1200);
        due("the driller's", x.killShoePressure(DRILLERS, 100), 4708);
        due("wait and weight", x.killShoePressure(WAIT_AND_WEIGHT, 9000), 4708);
    }

    private static void nothingIsChanged() {
        for (Start start : Start.values()) {
            WellControl x = start.make();
            WellControl twin = start.make();
            for (int method = 0; method <= 1; method++) {
                for (int step : new int[] {100, 777, 9000}) {
                    x.killShoePressure(method, step);
                    twin.killDensity();
                }
            }
            for (int i = 0; i < 6; i++) {
                due("digest() behind kill methods, " + start, x.digest(), twin.digest());
                due("undo() behind kill methods, " + start, x.undo(), twin.undo());
            }
        }
    }

    private static void aMethodRunsAgain() {
        WellControl x = slugWell();
        for (int i = 0; i < 3; i++) {
            due("the driller's again", x.killShoePressure(DRILLERS, 251), 1922);
            due("wait and weight again", x.killShoePressure(WAIT_AND_WEIGHT, 251), 0);
        }
    }
}
