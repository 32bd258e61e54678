import java.math.BigInteger;
import java.util.List;
import java.util.function.ToIntFunction;

/** The edges of the saved states, of the counts, of the error counters and of the digest. */
public final class StateEdgesTest {
    /** What the digest of a new object is made of. */
    private static final int[] NEW = {0, 0, 0, 0, 1000, 9, 25, 400, 1200, 0, 2000, 8000,
        1, 9000, 1200, 1, 25000, 1200, 0, 0, 2000, 4708, 0, 0, 0, 0};

    public static void main(String[] args) {
        eachUndoableCallSaves();
        callsThatChangeNothingSave();
        noOtherCallSaves();
        fourStatesAreSaved();
        theOldestIsDroppedFirst();
        anUndoMakesRoomForOneMore();
        theSavedStateHasEverything();
        theCountersAreNotSaved();
        theLimitsComeBack();
        undoWithoutSavedStates();
        wellsDoNotShareAnything();
        gainIsOfInfluxesAlone();
        aNewGeometrySetsCountsToZero();
        anErrorCountsItself();
        eachCodeHasItsCounter();
        digestIgnoresOverflow();
        digestTellsSettingsApart();
        digestTellsReadingsApart();
        digestTellsCountersApart();
        Due.end();
    }

    private static void due(String call, long got, long want) {
        Due.due(call, got, want);
    }

    private static void eachUndoableCallSaves() {
        List<ToIntFunction<WellControl>> undoable = List.of(x -> x.setGeometry(100, 1, 5, 1),
                x -> x.setMud(1), x -> x.setFormation(1), x -> x.setSlowPump(1), x -> x.setFracture(1),
                x -> x.pump(1), x -> x.influx(1, 1));
        for (int i = 0; i < undoable.size(); i++) {
            WellControl x = new WellControl();
            long before = x.digest();
            undoable.get(i).applyAsInt(x);
            Due.holds("call " + i + " changes the digest", x.digest() != before);
            due("undo() of call " + i, x.undo(), 0);
            due("digest() behind undo of call " + i, x.digest(), before);
        }
    }

    /** The number of saved states is the last value of the digest, so one more adds 1 to it. */
    private static void callsThatChangeNothingSave() {
        idleCall("setGeometry", new WellControl(), x -> x.setGeometry(1000, 9, 25, 400));
        List<ToIntFunction<WellControl>> idle = List.of(x -> x.setMud(1200), x -> x.setFormation(0),
                x -> x.setSlowPump(2000), x -> x.setFracture(8000), x -> x.pump(1), x -> x.pump(9000));
        for (int i = 0; i < idle.size(); i++) {
            WellControl x = new WellControl();
            x.pump(1);
            idleCall("idle call " + i, x, idle.get(i));
        }
    }

    private static void idleCall(String call, WellControl x, ToIntFunction<WellControl> idle) {
        long before = x.digest();
        idle.applyAsInt(x);
        due("digest() behind " + call, x.digest(), before + 1);
        idle.applyAsInt(x);
        due("digest() behind " + call + " again", x.digest(), before + 2);
        x.undo();
        due("digest() behind undo of " + call, x.digest(), before + 1);
        x.undo();
        due("digest() behind undo of " + call, x.digest(), before);
    }

    private static void noOtherCallSaves() {
        WellControl x = new WellControl();
        x.setMud(1300);
        long before = x.digest();
        x.hydrostatic(0);
        x.hydrostaticAbove(1, 5);
        x.drillPipePressure();
        x.casingPressure();
        x.standpipePressure();
        x.shoePressure();
        x.allowedCasingPressure();
        x.killDensity();
        x.killShoePressure(0, 1000);
        x.killShoePressure(1, 1000);
        x.schedule(50);
        x.strokesToBit(10);
        x.layers(0);
        x.layerVolume(0, 0);
        x.layerDensity(1, 0);
        x.gain();
        x.breaks();
        x.greatestShoePressure();
        x.errorCount(-2);
        due("digest() behind all that looks", x.digest(), before);
        due("undo() of the one that saved", x.undo(), 0);
        due("undo() does not save", x.undo(), -5);
    }

    /** Settings of the formation that can be seen at the drill pipe as 1, 2, 3 and so on. */
    private static WellControl withFormations(int count) {
        WellControl x = new WellControl();
        for (int i = 1; i <= count; i++) {
            x.setFormation(11772 + i);
        }
        return x;
    }

    private static void undone(WellControl x, int left, int seen) {
        due("undo()", x.undo(), left);
        due("drillPipePressure() behind undo", x.drillPipePressure(), seen);
    }

    private static void fourStatesAreSaved() {
        WellControl x = withFormations(4);
        for (int left = 3; left >= 0; left--) {
            undone(x, left, left);
        }
        undone(x, -5, 0);
        due("back at the first", x.setFormation(1), 0);
    }

    private static void theOldestIsDroppedFirst() {
        for (int count : new int[] {5, 6, 8, 9, 100}) {
            WellControl x = withFormations(count);
            for (int left = 3; left >= 0; left--) {
                undone(x, left, count - 4 + left);
            }
            undone(x, -5, count - 4);
            due("the last that is left", x.setFormation(1), 11772 + count - 4);
        }
    }

    private static void anUndoMakesRoomForOneMore() {
        WellControl x = withFormations(5);
        undone(x, 3, 4);
        x.setFormation(11772 + 50);
        undone(x, 3, 4);
        x.setFormation(11772 + 60);
        x.setFormation(11772 + 70);
        undone(x, 3, 60);
        undone(x, 2, 4);
        undone(x, 1, 3);
        undone(x, 0, 2);
        undone(x, -5, 2);
    }

    private static void theSavedStateHasEverything() {
        List<ToIntFunction<WellControl>> calls = List.of(x -> x.setFormation(60000),
                x -> x.setFracture(1), x -> x.setSlowPump(9999), x -> x.setMud(2500), x -> x.pump(9000),
                x -> x.influx(25000, 1), x -> x.setGeometry(100, 20, 60, 100), x -> x.pump(2000));
        for (int first = 0; first + 4 <= calls.size(); first++) {
            WellControl x = Start.WORKED.make();
            long[] before = new long[4];
            for (int i = 0; i < 4; i++) {
                before[i] = x.digest();
                calls.get(first + i).applyAsInt(x);
            }
            for (int i = 3; i >= 0; i--) {
                due("undo()", x.undo(), i);
                due("digest() but for the saved", x.digest() - i, before[i] - 4);
            }
        }
    }

    private static void theCountersAreNotSaved() {
        WellControl x = new WellControl();
        x.setMud(1300);
        x.setMud(0);
        x.pump(9001);
        x.layerVolume(0, 1);
        due("undo()", x.undo(), 0);
        due("undo()", x.undo(), -5);
        for (int code = -5; code <= -2; code++) {
            due("errorCount(" + code + ")", x.errorCount(code), 1);
        }
        due("the mud", x.setMud(1300), 1200);
    }

    private static void theLimitsComeBack() {
        WellControl x = new WellControl();
        x.setGeometry(100, 1, 5, 1);
        due("pump(101)", x.pump(101), -3);
        due("influx(501, 1)", x.influx(501, 1), -3);
        due("killShoePressure(0, 101)", x.killShoePressure(0, 101), -3);
        due("undo()", x.undo(), 0);
        due("killShoePressure(0, 101)", x.killShoePressure(0, 101), 4708);
        due("pump(9000)", x.pump(9000), 0);
        due("influx(25000, 1)", x.influx(25000, 1), 0);
        due("pump(9001)", x.pump(9001), -3);
        due("influx(25001, 1)", x.influx(25001, 1), -3);
    }

    private static void undoWithoutSavedStates() {
        Refusal.due("undo()", -5, Start.NEW, WellControl::undo);
        Refusal.due("undo()", -5, StateEdgesTest::undoAll, WellControl::undo);
    }

    private static int undoAll(WellControl x) {
        for (int i = 0; i < 6; i++) {
            x.setMud(1000 + i);
            x.influx(1, 10 + i);
        }
        for (int i = 0; i < 4; i++) {
            x.undo();
        }
        return x.gain();
    }

    private static void wellsDoNotShareAnything() {
        long[] alone = answersToTheLastSaved(Start.WORKED.make());
        WellControl among = Start.WORKED.make();
        for (Start start : Start.values()) {
            WellControl other = start.make();
            other.setGeometry(100, 20, 5, 100);
            other.influx(400, 1);
            other.setMud(0);
            other.killShoePressure(0, 500);
            other.undo();
        }
        long[] amongOthers = answersToTheLastSaved(among);
        for (int i = 0; i < alone.length; i++) {
            due("answer " + i + " among other wells", amongOthers[i], alone[i]);
        }
        due("digest() of a new object behind others", new WellControl().digest(), hash(NEW).longValue());
    }

    private static long[] answersToTheLastSaved(WellControl x) {
        long[] answers = new long[15];
        for (int i = 0; i < answers.length; i += 3) {
            answers[i] = x.digest();
            answers[i + 1] = x.killShoePressure(0, 500);
            answers[i + 2] = x.undo();
        }
        return answers;
    }

    private static void gainIsOfInfluxesAlone() {
        WellControl x = new WellControl();
        x.pump(9000);
        due("pump(9000)", x.gain(), 0);
        x.influx(1, 1200);
        due("influx(1, 1200)", x.gain(), 1);
        x.influx(25000, 1);
        due("influx(25000, 1)", x.gain(), 25001);
        x.influx(25001, 1);
        x.influx(0, 1);
        x.pump(9001);
        due("refused calls", x.gain(), 25001);
        x.undo();
        due("undo()", x.gain(), 1);
    }

    private static void aNewGeometrySetsCountsToZero() {
        WellControl x = Start.WORKED.make();
        due("gain()", x.gain(), 2000);
        due("breaks()", x.breaks(), 3);
        due("greatestShoePressure()", x.greatestShoePressure(), 6643);
        due("setGeometry, as it is", x.setGeometry(1000, 9, 25, 400), 34000);
        due("gain() behind it", x.gain(), 0);
        due("breaks() behind it", x.breaks(), 0);
        due("greatestShoePressure() behind it", x.greatestShoePressure(), 0);
        for (int code = -5; code <= -2; code++) {
            due("the error counters stay", x.errorCount(code), 1);
        }
        due("the formation pressure stays", x.setFormation(1), 13000);
        due("the slow pump pressure stays", x.setSlowPump(1), 1999);
        due("the fracture pressure stays", x.setFracture(1), 6000);
        due("the mud stays", x.setMud(1), 1400);
    }

    private static void anErrorCountsItself() {
        WellControl x = new WellControl();
        due("errorCount(-1)", x.errorCount(-1), -2);
        due("errorCount(-2)", x.errorCount(-2), 1);
        due("errorCount(-6)", x.errorCount(-6), -2);
        due("errorCount(-2)", x.errorCount(-2), 2);
        due("asking does not count", x.errorCount(-2), 2);
        due("undo()", x.undo(), -5);
        due("errorCount(-5)", x.errorCount(-5), 1);
    }

    private static void eachCodeHasItsCounter() {
        WellControl x = new WellControl();
        for (int i = 0; i < 5; i++) {
            x.setMud(0);
            if (i < 4) {
                x.pump(9001);
            }
            if (i < 3) {
                x.layerVolume(0, 1);
            }
            if (i < 2) {
                x.undo();
            }
        }
        for (int code = -5; code <= -2; code++) {
            due("errorCount(" + code + ")", x.errorCount(code), code + 7);
        }
    }

    /** The hash of the values of a new object with some of them changed: pairs of a place and a value. */
    private static long hashOfNewBut(int... changes) {
        int[] values = NEW.clone();
        for (int i = 0; i < changes.length; i += 2) {
            values[changes[i]] = changes[i + 1];
        }
        return hash(values).longValue();
    }

    private static BigInteger hash(int... values) {
        BigInteger h = BigInteger.valueOf(2693);
        for (int v : values) {
            h = h.multiply(BigInteger.valueOf(31)).add(BigInteger.valueOf(v));
        }
        return h;
    }

    private static void digestIgnoresOverflow() {
        Due.holds("the sum is over what a long holds", hash(NEW).bitLength() > 100);
        due("digest() of a new object", new WellControl().digest(), hash(NEW).longValue());
        WellControl x = new WellControl();
        x.setFormation(60000);
        x.setSlowPump(9999);
        x.setFracture(60000);
        x.setMud(2500);
        x.setGeometry(3000, 20, 60, 3000);
        x.influx(180000, 2500);
        due("digest() of the greatest values", x.digest(), hash(0, 0, 0, 0, 3000, 20, 60, 3000, 2500,
                60000, 9999, 60000, 1, 60000, 2500, 1, 180000, 2500, 0, 0, 9999, 73575, 180000, 1,
                73575, 4).longValue());
    }

    private static void digestBehind(String call, ToIntFunction<WellControl> asking, int... changes) {
        WellControl x = new WellControl();
        asking.applyAsInt(x);
        due("digest() behind " + call, x.digest(), hashOfNewBut(changes));
        due("digest() again", x.digest(), hashOfNewBut(changes));
    }

    private static void digestTellsSettingsApart() {
        digestBehind("a depth", x -> x.setGeometry(1001, 9, 25, 400), 4, 1001, 13, 9009, 16, 25025, 25, 1);
        digestBehind("a pipe", x -> x.setGeometry(1000, 10, 25, 400), 5, 10, 13, 10000, 25, 1);
        digestBehind("an annulus", x -> x.setGeometry(1000, 9, 26, 400), 6, 26, 16, 26000, 25, 1);
        digestBehind("a shoe", x -> x.setGeometry(1000, 9, 25, 401), 7, 401, 21, 4720, 25, 1);
        digestBehind("setMud", x -> x.setMud(1201), 8, 1201, 25, 1);
        digestBehind("setFormation", x -> x.setFormation(1), 9, 1, 25, 1);
        digestBehind("setSlowPump", x -> x.setSlowPump(2001), 10, 2001, 20, 2001, 25, 1);
        digestBehind("setFracture", x -> x.setFracture(8001), 11, 8001, 25, 1);
    }

    private static void digestTellsReadingsApart() {
        digestBehind("a pressure", x -> x.setFormation(11773), 9, 11773, 18, 1, 19, 1, 20, 2001, 21, 4709,
                25, 1);
        digestBehind("pump(1)", x -> x.pump(1), 24, 4708, 25, 1);
        digestBehind("influx(1, 1200)", x -> x.influx(1, 1200), 22, 1, 24, 4708, 25, 1);
        digestBehind("a break", x -> x.setFracture(0) + x.pump(1), 11, 0, 23, 1, 24, 4708, 25, 2);
        digestBehind("four saved", x -> x.setMud(1) + x.setMud(2) + x.setMud(3) + x.setMud(1200), 25, 4);
        digestBehind("a fifth saved", x -> x.setMud(1) + x.setMud(2) + x.setMud(3) + x.setMud(4)
                + x.setMud(1200), 25, 4);
    }

    private static void digestTellsCountersApart() {
        digestBehind("setMud(0)", x -> x.setMud(0), 0, 1);
        digestBehind("pump(9001)", x -> x.pump(9001), 1, 1);
        digestBehind("layerVolume(0, 1)", x -> x.layerVolume(0, 1), 2, 1);
        digestBehind("undo()", x -> x.undo(), 3, 1);
        digestBehind("errorCount(0)", x -> x.errorCount(0), 0, 1);
    }
}
