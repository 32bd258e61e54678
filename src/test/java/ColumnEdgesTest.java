/** The edges of the columns, of pumping and of an influx, as the Description tells them. */
public final class ColumnEdgesTest {
    public static void main(String[] args) {
        alwaysFull();
        aLayerIsGoneWithItsLastLitre();
        theUppermostLayerIsGoneWithItsLastLitre();
        equalNeighboursInThePipe();
        equalNeighboursInTheAnnulus();
        equalNeighboursWhereInfluxAndMudMeet();
        oneLitreBetweenKeepsEqualsApart();
        aDifferenceOfOneKeepsApart();
        leastAndGreatestDensity();
        whatLeavesFirstLiesHigher();
        allOfThePipeFillsAnEqualAnnulus();
        allOfTheAnnulusFromAGreaterPipe();
        anInfluxLeavesThePipe();
        anInfluxOfAllTheAnnulus();
        theGreatestColumns();
        aNewGeometryFillsWithPresentMud();
        Due.end();
    }

    private static void due(String call, long got, long want) {
        Due.due(call, got, want);
    }

    /** 200 litres in the pipe, 500 in the annulus, all of it mud of 1200. */
    private static WellControl small() {
        WellControl x = new WellControl();
        x.setGeometry(100, 2, 5, 50);
        return x;
    }

    private static void pumpMud(WellControl x, int density, int volume) {
        x.setMud(density);
        x.pump(volume);
    }

    private static void full(WellControl x, String call) {
        due("litres in the pipe behind " + call, Columns.volume(x, 0), 9000);
        due("litres in the annulus behind " + call, Columns.volume(x, 1), 25000);
    }

    private static void alwaysFull() {
        WellControl x = new WellControl();
        full(x, "new");
        int density = 1300;
        for (int volume : new int[] {1, 2, 4500, 8999, 9000, 1}) {
            pumpMud(x, density++, volume);
            full(x, "pump(" + volume + ")");
        }
        for (int volume : new int[] {1, 12500, 24999, 25000, 1}) {
            x.influx(volume, density++);
            full(x, "influx(" + volume + ")");
        }
    }

    private static void aLayerIsGoneWithItsLastLitre() {
        WellControl x = small();
        pumpMud(x, 1300, 50);
        x.pump(149);
        Columns.due(x, 0, 199, 1300, 1, 1200);
        Columns.due(x, 1, 500, 1200);
        x.undo();
        x.pump(150);
        Columns.due(x, 0, 200, 1300);
        Columns.due(x, 1, 500, 1200);
        x.undo();
        x.pump(151);
        Columns.due(x, 0, 200, 1300);
        Columns.due(x, 1, 499, 1200, 1, 1300);
    }

    private static void theUppermostLayerIsGoneWithItsLastLitre() {
        WellControl x = small();
        x.influx(20, 300);
        x.influx(479, 700);
        Columns.due(x, 1, 1, 1200, 20, 300, 479, 700);
        x.undo();
        x.influx(480, 700);
        Columns.due(x, 1, 20, 300, 480, 700);
        x.undo();
        x.influx(481, 700);
        Columns.due(x, 1, 19, 300, 481, 700);
        x.undo();
        x.influx(499, 700);
        Columns.due(x, 1, 1, 300, 499, 700);
    }

    private static void equalNeighboursInThePipe() {
        WellControl x = small();
        x.pump(1);
        Columns.due(x, 0, 200, 1200);
        pumpMud(x, 1300, 10);
        x.pump(10);
        Columns.due(x, 0, 20, 1300, 180, 1200);
        pumpMud(x, 1200, 10);
        Columns.due(x, 0, 10, 1200, 20, 1300, 170, 1200);
        x.pump(200);
        Columns.due(x, 0, 200, 1200);
    }

    private static void equalNeighboursInTheAnnulus() {
        WellControl x = small();
        x.pump(200);
        Columns.due(x, 1, 500, 1200);
        x.influx(10, 1200);
        Columns.due(x, 1, 500, 1200);
        x.influx(10, 300);
        x.influx(5, 300);
        Columns.due(x, 1, 485, 1200, 15, 300);
        x.pump(3);
        x.pump(4);
        Columns.due(x, 1, 478, 1200, 15, 300, 7, 1200);
    }

    private static void equalNeighboursWhereInfluxAndMudMeet() {
        WellControl x = small();
        pumpMud(x, 1300, 200);
        x.influx(10, 1300);
        Columns.due(x, 1, 490, 1200, 10, 1300);
        x.pump(5);
        Columns.due(x, 1, 485, 1200, 15, 1300);
        x.influx(1, 1300);
        Columns.due(x, 1, 484, 1200, 16, 1300);
        Columns.due(x, 0, 200, 1300);
    }

    private static void oneLitreBetweenKeepsEqualsApart() {
        WellControl x = small();
        x.influx(10, 300);
        x.influx(1, 301);
        x.influx(10, 300);
        Columns.due(x, 1, 479, 1200, 10, 300, 1, 301, 10, 300);
        pumpMud(x, 1300, 10);
        pumpMud(x, 1301, 1);
        pumpMud(x, 1300, 10);
        Columns.due(x, 0, 10, 1300, 1, 1301, 10, 1300, 179, 1200);
    }

    private static void aDifferenceOfOneKeepsApart() {
        WellControl x = small();
        pumpMud(x, 1201, 7);
        pumpMud(x, 1200, 7);
        pumpMud(x, 1199, 7);
        Columns.due(x, 0, 7, 1199, 7, 1200, 7, 1201, 179, 1200);
        x.influx(7, 1201);
        x.influx(7, 1200);
        x.influx(7, 1199);
        Columns.due(x, 1, 479, 1200, 7, 1201, 7, 1200, 7, 1199);
    }

    private static void leastAndGreatestDensity() {
        WellControl x = small();
        pumpMud(x, 1, 1);
        pumpMud(x, 2500, 1);
        Columns.due(x, 0, 1, 2500, 1, 1, 198, 1200);
        x.influx(1, 2500);
        x.influx(1, 1);
        Columns.due(x, 1, 498, 1200, 1, 2500, 1, 1);
    }

    private static void whatLeavesFirstLiesHigher() {
        WellControl x = small();
        pumpMud(x, 1300, 1);
        pumpMud(x, 1400, 2);
        pumpMud(x, 1500, 197);
        Columns.due(x, 0, 197, 1500, 2, 1400, 1, 1300);
        x.pump(4);
        Columns.due(x, 0, 200, 1500);
        Columns.due(x, 1, 496, 1200, 1, 1300, 2, 1400, 1, 1500);
    }

    private static void allOfThePipeFillsAnEqualAnnulus() {
        WellControl x = new WellControl();
        x.setGeometry(100, 20, 20, 50);
        pumpMud(x, 1300, 1);
        pumpMud(x, 1400, 2);
        x.pump(1999);
        Columns.due(x, 0, 2000, 1400);
        Columns.due(x, 1, 1998, 1200, 1, 1300, 1, 1400);
        x.undo();
        x.pump(2000);
        Columns.due(x, 0, 2000, 1400);
        Columns.due(x, 1, 1997, 1200, 1, 1300, 2, 1400);
        due("one litre more", x.pump(2001), -3);
    }

    private static void allOfTheAnnulusFromAGreaterPipe() {
        WellControl x = new WellControl();
        x.setGeometry(100, 20, 5, 50);
        x.influx(500, 300);
        pumpMud(x, 1300, 499);
        Columns.due(x, 0, 499, 1300, 1501, 1200);
        Columns.due(x, 1, 1, 300, 499, 1200);
        x.undo();
        x.pump(500);
        Columns.due(x, 0, 500, 1300, 1500, 1200);
        Columns.due(x, 1, 500, 1200);
        due("one litre more", x.pump(501), -3);
    }

    private static void anInfluxLeavesThePipe() {
        WellControl x = small();
        pumpMud(x, 1300, 30);
        for (int volume : new int[] {1, 200, 201, 499, 500}) {
            x.influx(volume, 300);
            Columns.due(x, 0, 30, 1300, 170, 1200);
        }
    }

    private static void anInfluxOfAllTheAnnulus() {
        WellControl x = small();
        x.influx(3, 300);
        x.influx(4, 400);
        x.influx(499, 2);
        Columns.due(x, 1, 1, 400, 499, 2);
        x.undo();
        x.influx(500, 2);
        Columns.due(x, 1, 500, 2);
        x.influx(500, 2);
        Columns.due(x, 1, 500, 2);
        due("all of it came back", x.gain(), 1007);
    }

    private static void theGreatestColumns() {
        WellControl x = new WellControl();
        x.setGeometry(3000, 20, 60, 3000);
        x.influx(180000, 2500);
        Columns.due(x, 1, 180000, 2500);
        pumpMud(x, 2500, 60000);
        Columns.due(x, 0, 60000, 2500);
        Columns.due(x, 1, 120000, 2500, 60000, 1200);
    }

    private static void aNewGeometryFillsWithPresentMud() {
        WellControl x = small();
        pumpMud(x, 1300, 30);
        x.influx(7, 9);
        x.setMud(2500);
        x.setGeometry(100, 2, 5, 50);
        Columns.due(x, 0, 200, 2500);
        Columns.due(x, 1, 500, 2500);
        x.setMud(1);
        x.setGeometry(100, 1, 60, 50);
        Columns.due(x, 0, 100, 1);
        Columns.due(x, 1, 6000, 1);
    }
}
