/** The edges of the pressures, of the kill density, of the schedule and of the strokes. */
public final class PressureEdgesTest {
    public static void main(String[] args) {
        pipePressureIsRoundedDown();
        annulusPressureIsRoundedDown();
        leastAndGreatestPressure();
        aPartEndsWithItsLastLitre();
        nothingIsAboveTheSurface();
        drillPipePressureIsAtLeastZero();
        casingPressureIsAtLeastZero();
        whatIsSubtractedIsRoundedBefore();
        theShoePartEndsWithItsLastLitre();
        theShoeAtTheBottom();
        standpipePressureAtItsEnds();
        theShoeBreaksAboveTheFracturePressure();
        theShoeIsCheckedOnceForEachFlow();
        theShoeIsCheckedBehindTheFlow();
        onlyFlowIsChecked();
        theGreatestIsTheGreatest();
        allowedCasingPressureMayBeNegative();
        allowedCasingPressureIsNoErrorCode();
        allowedCasingPressureIsTheGreatestThatHolds();
        killDensityAtItsEnds();
        killDensityIsTheLeast();
        killDensityWhereOneLacksAlmostNothing();
        scheduleIsRoundedTowardsZero();
        scheduleRoundsTheLastPressureDown();
        scheduleDoesNotOverflow();
        scheduleWithoutSlowPump();
        strokesAreTheLeastThatFill();
        Due.end();
    }

    private static void due(String call, long got, long want) {
        Due.due(call, got, want);
    }

    /** A well that is all mud of the density. */
    private static WellControl filled(int density, int depth, int pipe, int annulus, int shoe) {
        WellControl x = new WellControl();
        x.setMud(density);
        x.setGeometry(depth, pipe, annulus, shoe);
        return x;
    }

    private static void pipePressureIsRoundedDown() {
        int[][] whole = {{99, 971}, {100, 981}, {101, 990}, {1, 9}, {2, 19}, {2499, 24515}};
        for (int[] w : whole) {
            WellControl x = filled(w[0], 1000, 9, 25, 1);
            due("971.19, 981, 990.81, ..", x.hydrostatic(0), w[1]);
            due("971.19, 981, 990.81, ..", x.hydrostatic(1), w[1]);
            due("971.19, 981, 990.81, ..", x.hydrostaticAbove(0, 1000), w[1]);
        }
        WellControl x = filled(1, 100, 1, 5, 1);
        x.setMud(2);
        x.pump(1);
        due("0.991", x.hydrostatic(0), 0);
        x.undo();
        x.setMud(3);
        x.pump(1);
        due("1.001", x.hydrostatic(0), 1);
        WellControl wide = filled(1, 100, 20, 5, 1);
        wide.setMud(39);
        wide.pump(1);
        due("0.9996, the capacity is divided by once", wide.hydrostatic(0), 0);
        wide.undo();
        wide.setMud(40);
        wide.pump(1);
        due("1.0001, the capacity is divided by once", wide.hydrostatic(0), 1);
    }

    private static void annulusPressureIsRoundedDown() {
        WellControl x = filled(1, 100, 1, 5, 100);
        x.influx(1, 10);
        due("0.9987", x.hydrostatic(1), 0);
        due("0.9987 at the shoe", x.shoePressure(), 0);
        x.undo();
        x.influx(1, 11);
        due("1.0006", x.hydrostatic(1), 1);
        due("1.0006 at the shoe", x.shoePressure(), 1);
        due("0.9790 above 99 m", x.hydrostaticAbove(1, 99), 0);
        due("1.0006 above 100 m", x.hydrostaticAbove(1, 100), 1);
    }

    private static void leastAndGreatestPressure() {
        WellControl least = filled(1, 100, 20, 60, 1);
        due("hydrostatic(0)", least.hydrostatic(0), 0);
        due("hydrostatic(1)", least.hydrostatic(1), 0);
        WellControl greatest = filled(2500, 3000, 20, 60, 3000);
        for (int column = 0; column <= 1; column++) {
            due("hydrostatic", greatest.hydrostatic(column), 73575);
            due("hydrostaticAbove", greatest.hydrostaticAbove(column, 3000), 73575);
            due("hydrostaticAbove", greatest.hydrostaticAbove(column, 2999), 73550);
        }
        due("shoePressure()", greatest.shoePressure(), 73575);
        due("drillPipePressure()", greatest.drillPipePressure(), 0);
        due("casingPressure()", greatest.casingPressure(), 0);
        due("allowedCasingPressure()", greatest.allowedCasingPressure(), 8000 - 73575);
    }

    /** 899, 900 and 901 litres of heavy mud on the top; 900 litres are 100 m. */
    private static void aPartEndsWithItsLastLitre() {
        int[][] parts = {{899, 1942, 1961, 1972}, {900, 1942, 1962, 1973}, {901, 1942, 1962, 1974}};
        for (int[] p : parts) {
            WellControl x = new WellControl();
            x.setMud(2000);
            x.pump(p[0]);
            for (int i = 0; i < 3; i++) {
                due(p[0] + " litres, above " + (99 + i), x.hydrostaticAbove(0, 99 + i), p[1 + i]);
            }
        }
    }

    private static void nothingIsAboveTheSurface() {
        WellControl x = filled(2500, 3000, 20, 60, 3000);
        due("hydrostaticAbove(0, 0)", x.hydrostaticAbove(0, 0), 0);
        due("hydrostaticAbove(1, 0)", x.hydrostaticAbove(1, 0), 0);
        due("hydrostaticAbove(0, 1)", x.hydrostaticAbove(0, 1), 24);
        due("hydrostaticAbove(1, 1)", x.hydrostaticAbove(1, 1), 24);
    }

    private static void drillPipePressureIsAtLeastZero() {
        WellControl x = new WellControl();
        int[][] pairs = {{0, 0}, {1, 0}, {11770, 0}, {11771, 0}, {11772, 0}, {11773, 1}, {60000, 48228}};
        for (int[] p : pairs) {
            x.setFormation(p[0]);
            due("drillPipePressure() at " + p[0], x.drillPipePressure(), p[1]);
            due("standpipePressure() at " + p[0], x.standpipePressure(), 2000 + p[1]);
        }
        x.influx(25000, 2500);
        due("of the pipe alone", x.drillPipePressure(), 48228);
        WellControl light = filled(1, 100, 1, 5, 1);
        light.setFormation(60000);
        due("the greatest", light.drillPipePressure(), 60000);
    }

    private static void casingPressureIsAtLeastZero() {
        WellControl x = new WellControl();
        x.influx(25000, 100);
        int[][] pairs = {{0, 0}, {1, 0}, {979, 0}, {980, 0}, {981, 0}, {982, 1}, {60000, 59019}};
        for (int[] p : pairs) {
            x.setFormation(p[0]);
            due("casingPressure() at " + p[0], x.casingPressure(), p[1]);
            due("shoePressure() at " + p[0], x.shoePressure(), 392 + p[1]);
        }
        due("pump(1) answers it", x.pump(1), 59019);
        x.setFormation(0);
        due("pump(1) answers at least 0", x.pump(1), 0);
        due("influx(1, 1) answers at least 0", x.influx(1, 1), 0);
    }

    /** 11781.81 is 11781 before it is subtracted, so that one above it is 1 and not 0. */
    private static void whatIsSubtractedIsRoundedBefore() {
        WellControl x = filled(1201, 1000, 9, 25, 999);
        x.setFormation(11782);
        due("drillPipePressure()", x.drillPipePressure(), 1);
        due("casingPressure()", x.casingPressure(), 1);
        due("shoePressure(), 1 and 11770.02", x.shoePressure(), 11771);
        x.setFracture(11770);
        due("allowedCasingPressure(), less 11770.02", x.allowedCasingPressure(), 0);
    }

    /** The shoe at 1 m has 5 litres above it. */
    private static void theShoePartEndsWithItsLastLitre() {
        int[][] influxes = {{495, 0}, {496, 4}, {499, 19}, {500, 24}};
        for (int[] i : influxes) {
            WellControl x = filled(1, 100, 1, 5, 1);
            x.influx(i[0], 2500);
            due("shoePressure() with " + i[0], x.shoePressure(), i[1]);
            due("allowedCasingPressure() with " + i[0], x.allowedCasingPressure(), 8000 - i[1]);
            due("hydrostaticAbove(1, 1) with " + i[0], x.hydrostaticAbove(1, 1), i[1]);
        }
    }

    private static void theShoeAtTheBottom() {
        WellControl x = filled(1200, 100, 1, 5, 100);
        x.setFormation(1177);
        due("balanced", x.shoePressure(), 1177);
        x.setFormation(1178);
        due("one over", x.shoePressure(), 1178);
        x.setFormation(1176);
        due("one under", x.shoePressure(), 1177);
        x.influx(500, 1);
        due("with gas", x.shoePressure(), 1176);
    }

    private static void standpipePressureAtItsEnds() {
        WellControl x = filled(1, 100, 1, 5, 1);
        x.setSlowPump(0);
        due("the least", x.standpipePressure(), 0);
        x.setSlowPump(9999);
        due("without formation", x.standpipePressure(), 9999);
        x.setFormation(60000);
        due("the greatest", x.standpipePressure(), 69999);
    }

    private static void theShoeBreaksAboveTheFracturePressure() {
        int[][] pairs = {{4709, 0}, {4708, 0}, {4707, 1}, {0, 1}, {60000, 0}};
        for (int[] p : pairs) {
            WellControl x = new WellControl();
            x.setFracture(p[0]);
            x.pump(1);
            due("breaks() behind pump at " + p[0], x.breaks(), p[1]);
            x.influx(1, 1200);
            due("breaks() behind influx at " + p[0], x.breaks(), 2 * p[1]);
        }
        WellControl light = filled(1, 100, 1, 5, 1);
        light.setFracture(0);
        light.pump(1);
        due("0 is not greater than 0", light.breaks(), 0);
        WellControl heavy = filled(2500, 3000, 20, 60, 3000);
        heavy.setFracture(60000);
        heavy.pump(1);
        due("73575 is greater than 60000", heavy.breaks(), 1);
    }

    private static void theShoeIsCheckedOnceForEachFlow() {
        WellControl x = new WellControl();
        x.setFracture(0);
        x.pump(9000);
        due("breaks() behind pump(9000)", x.breaks(), 1);
        x.influx(25000, 1200);
        due("breaks() behind influx(25000)", x.breaks(), 2);
        x.pump(1);
        due("breaks() behind pump(1)", x.breaks(), 3);
        x.undo();
        due("breaks() behind undo", x.breaks(), 2);
    }

    /** Heavy mud goes all the way through: only with it in the annulus the shoe breaks. */
    private static void theShoeIsCheckedBehindTheFlow() {
        WellControl x = filled(1, 100, 20, 20, 100);
        x.setFracture(2451);
        x.setMud(2500);
        pumpedAll(x, 0, 0);
        x.setMud(1);
        pumpedAll(x, 1, 2452);
        pumpedAll(x, 1, 2452);
        x.influx(2000, 2500);
        due("breaks() with a heavy influx", x.breaks(), 2);
        x.influx(2000, 1);
        due("breaks() with a light influx", x.breaks(), 2);
    }

    private static void pumpedAll(WellControl x, int breaks, int greatest) {
        x.pump(2000);
        due("breaks() behind all of the pipe", x.breaks(), breaks);
        due("greatestShoePressure() behind all of the pipe", x.greatestShoePressure(), greatest);
    }

    private static void onlyFlowIsChecked() {
        WellControl x = new WellControl();
        x.setFormation(60000);
        x.setFracture(0);
        x.setMud(2500);
        x.setSlowPump(1);
        x.pump(0);
        x.pump(9001);
        x.influx(0, 1);
        x.influx(25001, 1);
        x.shoePressure();
        x.killShoePressure(0, 9000);
        due("breaks() without flow", x.breaks(), 0);
        due("greatestShoePressure() without flow", x.greatestShoePressure(), 0);
        x.setFormation(13000);
        x.killShoePressure(0, 100);
        x.killShoePressure(1, 100);
        due("breaks() without flow", x.breaks(), 0);
        due("greatestShoePressure() without flow", x.greatestShoePressure(), 0);
    }

    private static void theGreatestIsTheGreatest() {
        WellControl x = new WellControl();
        x.setFormation(11773);
        x.pump(1);
        due("the first", x.greatestShoePressure(), 4709);
        x.setFormation(11772);
        x.pump(1);
        due("one less", x.greatestShoePressure(), 4709);
        x.setFormation(11774);
        x.pump(1);
        due("one more", x.greatestShoePressure(), 4710);
        x.influx(1, 1200);
        due("as much", x.greatestShoePressure(), 4710);
        WellControl light = filled(1, 100, 1, 5, 1);
        light.pump(1);
        due("a check that sees 0", light.greatestShoePressure(), 0);
    }

    private static void allowedCasingPressureMayBeNegative() {
        WellControl x = new WellControl();
        int[][] pairs = {{4709, 1}, {4708, 0}, {4707, -1}, {0, -4708}, {60000, 55292}};
        for (int[] p : pairs) {
            x.setFracture(p[0]);
            due("allowedCasingPressure() at " + p[0], x.allowedCasingPressure(), p[1]);
        }
        WellControl heavy = filled(2500, 3000, 20, 60, 3000);
        heavy.setFracture(0);
        due("the least", heavy.allowedCasingPressure(), -73575);
        WellControl light = filled(1, 100, 1, 5, 1);
        light.setFracture(60000);
        due("the greatest", light.allowedCasingPressure(), 60000);
    }

    private static void allowedCasingPressureIsNoErrorCode() {
        WellControl x = new WellControl();
        for (int code = -5; code <= -2; code++) {
            x.setFracture(4708 + code);
            due("allowedCasingPressure()", x.allowedCasingPressure(), code);
        }
        for (int code = -5; code <= -2; code++) {
            due("errorCount(" + code + ")", x.errorCount(code), 0);
        }
    }

    /** The formation brings the casing pressure to it, and one above it; the annulus stays as it is. */
    private static void allowedCasingPressureIsTheGreatestThatHolds() {
        int[][] wells = {{400, 8000, 1200}, {1, 8000, 1200}, {1000, 11800, 1200}, {400, 8000, 300},
            {777, 30000, 2500}, {400, 4708, 1200}};
        for (int[] w : wells) {
            WellControl x = filled(1200, 1000, 9, 25, w[0]);
            x.setFracture(w[1]);
            x.influx(25000, w[2]);
            int breaksBefore = x.breaks();
            int allowed = x.allowedCasingPressure();
            x.setFormation(x.hydrostatic(1) + allowed);
            due("casingPressure()", x.casingPressure(), allowed);
            x.influx(1, w[2]);
            due("breaks() at the allowed pressure", x.breaks(), breaksBefore);
            x.undo();
            x.setFormation(x.hydrostatic(1) + allowed + 1);
            due("casingPressure()", x.casingPressure(), allowed + 1);
            x.influx(1, w[2]);
            due("breaks() at one above it", x.breaks(), breaksBefore + 1);
        }
    }

    private static void killDensityAtItsEnds() {
        int[][] ends = {{100, 0, 1}, {100, 1, 2}, {100, 2452, 2500}, {100, 2453, -4}, {1000, 0, 1},
            {1000, 9, 1}, {1000, 10, 2}, {1000, 24515, 2499}, {1000, 24516, 2500}, {1000, 24525, 2500},
            {1000, 24526, -4}, {1000, 60000, -4}, {3000, 29, 1}, {3000, 30, 2}, {3000, 60000, 2039}};
        int[] capacities = {1, 9, 20};
        for (int[] e : ends) {
            for (int capacity : capacities) {
                WellControl x = filled(700, e[0], capacity, 25, 1);
                x.setFormation(e[1]);
                due("killDensity() at " + e[1] + " in " + e[0], x.killDensity(), e[2]);
                due("errorCount(-4)", x.errorCount(-4), e[2] == -4 ? 1 : 0);
            }
        }
    }

    /** A pipe of it alone has the pressure, and a pipe of one less has not. */
    private static void killDensityIsTheLeast() {
        for (int depth : new int[] {100, 101, 139, 1000, 2999, 3000}) {
            for (int formation : new int[] {1, 2, 97, 981, 982, 1962, 2400}) {
                WellControl x = filled(1, depth, 3, 5, 1);
                x.setFormation(formation);
                int kill = x.killDensity();
                String where = " at " + formation + " in " + depth;
                Due.holds("enough" + where, filled(kill, depth, 3, 5, 1).hydrostatic(0) >= formation);
                Due.holds("the least" + where, kill == 1
                        || filled(kill - 1, depth, 3, 5, 1).hydrostatic(0) < formation);
            }
        }
    }

    /** The density of one less has a hundred-thousandth of a kPa less than the formation. */
    private static void killDensityWhereOneLacksAlmostNothing() {
        int[][] wells = {{139, 2674, 1962}, {1861, 712, 40}, {2181, 41914, 1960}, {2947, 53686, 1858}};
        for (int[] w : wells) {
            WellControl x = filled(1, w[0], 3, 5, 1);
            x.setFormation(w[1]);
            due("killDensity() at " + w[1] + " in " + w[0], x.killDensity(), w[2]);
            x.setFormation(w[1] - 1);
            due("killDensity() at one less", x.killDensity(), w[2] - 1);
        }
    }

    private static void scheduleIsRoundedTowardsZero() {
        WellControl x = new WellControl();
        x.setSlowPump(2001);
        x.setMud(1000);
        int[][] down = {{0, 2001}, {1, 1982}, {50, 1002}, {99, 22}, {100, 2}};
        for (int[] d : down) {
            due("from 2001 to 2: schedule(" + d[0] + ")", x.schedule(d[0]), d[1]);
        }
        x.setFormation(100);
        x.setSlowPump(9999);
        x.setMud(1);
        int[][] up = {{0, 9999}, {1, 10998}, {50, 59994}, {99, 108989}, {100, 109989}};
        for (int[] u : up) {
            due("from 9999 to 109989: schedule(" + u[0] + ")", x.schedule(u[0]), u[1]);
        }
    }

    private static void scheduleRoundsTheLastPressureDown() {
        WellControl x = new WellControl();
        x.setFormation(13000);
        x.setSlowPump(1999);
        due("2208.895", x.schedule(100), 2208);
        x.setMud(1326);
        due("1999", x.schedule(100), 1999);
        x.setMud(1327);
        due("1997.49", x.schedule(100), 1997);
        x.setSlowPump(1);
        due("0.9992", x.schedule(100), 0);
    }

    private static void scheduleDoesNotOverflow() {
        WellControl x = new WellControl();
        x.setFormation(24525);
        x.setSlowPump(9999);
        x.setMud(1);
        due("schedule(0)", x.schedule(0), 9999 + 24525 - 11772);
        due("schedule(85)", x.schedule(85), 21251287);
        due("schedule(86)", x.schedule(86), 21501035);
        due("schedule(100)", x.schedule(100), 24997500);
    }

    private static void scheduleWithoutSlowPump() {
        WellControl x = new WellControl();
        x.setSlowPump(0);
        x.setFormation(11772 + 199);
        due("schedule(0)", x.schedule(0), 199);
        due("schedule(1)", x.schedule(1), 198);
        due("schedule(99)", x.schedule(99), 2);
        due("schedule(100)", x.schedule(100), 0);
    }

    private static void strokesAreTheLeastThatFill() {
        int[][] strokes = {{100, 1, 100, 1}, {100, 1, 99, 2}, {100, 1, 51, 2}, {100, 1, 50, 2},
            {100, 1, 49, 3}, {100, 1, 1, 100}, {101, 1, 100, 2}, {3000, 20, 1, 60000},
            {3000, 20, 100, 600}, {3000, 20, 99, 607}, {2999, 20, 100, 600}};
        for (int[] s : strokes) {
            WellControl x = filled(1, s[0], s[1], 5, 1);
            due("strokesToBit(" + s[2] + ") of " + s[0] * s[1], x.strokesToBit(s[2]), s[3]);
        }
    }
}
