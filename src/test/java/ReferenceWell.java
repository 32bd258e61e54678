import java.math.BigInteger;
import java.util.ArrayList;
import java.util.List;

/**
 * The document once more, told as differently as can be: a column is a row of litres from the top to
 * the bottom, each with its density, and nothing is kept that can be computed.
 */
final class ReferenceWell {
    private static final class State {
        int depth = 1000;
        int pipeCapacity = 9;
        int annulusCapacity = 25;
        int shoe = 400;
        int mud = 1200;
        int formation = 0;
        int slowPump = 2000;
        int fracture = 8000;
        long returned = 0;
        long pumped = 0;
        int breaks = 0;
        int greatest = 0;
        int[] pipe = litres(9000, 1200);
        int[] annulus = litres(25000, 1200);

        State copy() {
            State s = new State();
            s.depth = depth;
            s.pipeCapacity = pipeCapacity;
            s.annulusCapacity = annulusCapacity;
            s.shoe = shoe;
            s.mud = mud;
            s.formation = formation;
            s.slowPump = slowPump;
            s.fracture = fracture;
            s.returned = returned;
            s.pumped = pumped;
            s.breaks = breaks;
            s.greatest = greatest;
            s.pipe = pipe.clone();
            s.annulus = annulus.clone();
            return s;
        }

        int capacity(int column) {
            return column == 0 ? pipeCapacity : annulusCapacity;
        }

        int[] column(int column) {
            return column == 0 ? pipe : annulus;
        }

        int pressure(int column, int metres) {
            long sum = 0;
            int[] litres = column(column);
            for (int i = 0; i < metres * capacity(column); i++) {
                sum += litres[i];
            }
            return (int) Math.floorDiv(981L * sum, 100000L * capacity(column));
        }

        int drillPipe() {
            return Math.max(formation - pressure(0, depth), 0);
        }

        int casing() {
            return Math.max(formation - pressure(1, depth), 0);
        }

        int shoePressure() {
            return casing() + pressure(1, shoe);
        }

        void enterAnnulus(int[] litres) {
            int n = litres.length;
            int all = annulus.length;
            System.arraycopy(annulus, n, annulus, 0, all - n);
            System.arraycopy(litres, 0, annulus, all - n, n);
            returned += n;
        }

        void pump(int volume, int density) {
            int all = pipe.length;
            int[] leaving = new int[volume];
            for (int i = 0; i < volume; i++) {
                leaving[i] = pipe[all - 1 - i];
            }
            System.arraycopy(pipe, 0, pipe, volume, all - volume);
            System.arraycopy(litres(volume, density), 0, pipe, 0, volume);
            enterAnnulus(leaving);
            pumped += volume;
        }

        int check() {
            int p = shoePressure();
            breaks += p > fracture ? 1 : 0;
            greatest = p > greatest ? p : greatest;
            return p;
        }

        int kill() {
            for (int k = 1; k <= 2500; k++) {
                long sum = (long) k * pipe.length;
                if (981L * sum / (100000L * pipeCapacity) >= formation) {
                    return k;
                }
            }
            return -4;
        }

        List<int[]> layers(int column) {
            List<int[]> found = new ArrayList<>();
            int[] last = null;
            for (int density : column(column)) {
                if (last == null || last[1] != density) {
                    last = new int[] {0, density};
                    found.add(last);
                }
                last[0]++;
            }
            return found;
        }
    }

    private State now = new State();
    private final List<State> saved = new ArrayList<>();
    private final int[] counters = new int[6];

    private static int[] litres(int volume, int density) {
        int[] row = new int[volume];
        java.util.Arrays.fill(row, density);
        return row;
    }

    private int error(int code) {
        counters[-code]++;
        return code;
    }

    private void save() {
        saved.add(now.copy());
        if (saved.size() > 4) {
            saved.remove(0);
        }
    }

    int setGeometry(int depth, int pipeCapacity, int annulusCapacity, int shoe) {
        if (depth < 100 || depth > 3000 || pipeCapacity < 1 || pipeCapacity > 20
                || annulusCapacity < 5 || annulusCapacity > 60 || shoe < 1 || shoe > depth) {
            return error(-2);
        }
        save();
        now.depth = depth;
        now.pipeCapacity = pipeCapacity;
        now.annulusCapacity = annulusCapacity;
        now.shoe = shoe;
        now.pipe = litres(depth * pipeCapacity, now.mud);
        now.annulus = litres(depth * annulusCapacity, now.mud);
        now.returned = 0;
        now.pumped = 0;
        now.breaks = 0;
        now.greatest = 0;
        return now.pipe.length + now.annulus.length;
    }

    int setMud(int density) {
        if (density < 1 || density > 2500) {
            return error(-2);
        }
        save();
        int old = now.mud;
        now.mud = density;
        return old;
    }

    int setFormation(int pressure) {
        if (pressure < 0 || pressure > 60000) {
            return error(-2);
        }
        save();
        int old = now.formation;
        now.formation = pressure;
        return old;
    }

    int setSlowPump(int pressure) {
        if (pressure < 0 || pressure > 9999) {
            return error(-2);
        }
        save();
        int old = now.slowPump;
        now.slowPump = pressure;
        return old;
    }

    int setFracture(int pressure) {
        if (pressure < 0 || pressure > 60000) {
            return error(-2);
        }
        save();
        int old = now.fracture;
        now.fracture = pressure;
        return old;
    }

    int pump(int volume) {
        if (volume < 1) {
            return error(-2);
        }
        if (volume > now.pipe.length || volume > now.annulus.length) {
            return error(-3);
        }
        save();
        now.pump(volume, now.mud);
        now.check();
        return now.casing();
    }

    int influx(int volume, int density) {
        if (volume < 1 || density < 1 || density > 2500) {
            return error(-2);
        }
        if (volume > now.annulus.length) {
            return error(-3);
        }
        save();
        now.enterAnnulus(litres(volume, density));
        now.check();
        return now.casing();
    }

    int hydrostatic(int column) {
        return column < 0 || column > 1 ? error(-2) : now.pressure(column, now.depth);
    }

    int hydrostaticAbove(int column, int metres) {
        if (column < 0 || column > 1 || metres < 0 || metres > now.depth) {
            return error(-2);
        }
        return now.pressure(column, metres);
    }

    int drillPipePressure() {
        return now.drillPipe();
    }

    int casingPressure() {
        return now.casing();
    }

    int standpipePressure() {
        return now.slowPump + now.drillPipe();
    }

    int shoePressure() {
        return now.shoePressure();
    }

    int allowedCasingPressure() {
        return now.fracture - now.pressure(1, now.shoe);
    }

    int killDensity() {
        int kill = now.kill();
        return kill == -4 ? error(-4) : kill;
    }

    int killShoePressure(int method, int step) {
        if (method < 0 || method > 1 || step < 100 || step > 9000) {
            return error(-2);
        }
        if (step > now.pipe.length || step > now.annulus.length) {
            return error(-3);
        }
        int kill = now.kill();
        if (kill == -4) {
            return error(-4);
        }
        State copy = now.copy();
        int greatest = Integer.MIN_VALUE;
        if (method == 0) {
            for (int done = 0; done < copy.annulus.length; done += step) {
                copy.pump(step, copy.mud);
                greatest = Math.max(greatest, copy.shoePressure());
            }
        }
        for (int done = 0; done < copy.pipe.length + copy.annulus.length; done += step) {
            copy.pump(step, kill);
            greatest = Math.max(greatest, copy.shoePressure());
        }
        return greatest;
    }

    int schedule(int part) {
        if (part < 0 || part > 100) {
            return error(-2);
        }
        int kill = now.kill();
        if (kill == -4) {
            return error(-4);
        }
        BigInteger i = BigInteger.valueOf(now.slowPump + now.drillPipe());
        BigInteger f = BigInteger.valueOf(now.slowPump).multiply(BigInteger.valueOf(kill))
                .divide(BigInteger.valueOf(now.mud));
        BigInteger change = f.subtract(i).multiply(BigInteger.valueOf(part))
                .divide(BigInteger.valueOf(100));
        return i.add(change).intValueExact();
    }

    int strokesToBit(int stroke) {
        if (stroke < 1 || stroke > 100) {
            return error(-2);
        }
        int strokes = 0;
        while (strokes * stroke < now.pipe.length) {
            strokes++;
        }
        return strokes;
    }

    int layers(int column) {
        return column < 0 || column > 1 ? error(-2) : now.layers(column).size();
    }

    int layerVolume(int column, int index) {
        return layer(column, index, 0);
    }

    int layerDensity(int column, int index) {
        return layer(column, index, 1);
    }

    private int layer(int column, int index, int what) {
        if (column < 0 || column > 1 || index < 0) {
            return error(-2);
        }
        List<int[]> all = now.layers(column);
        return index >= all.size() ? error(-4) : all.get(index)[what];
    }

    int gain() {
        return (int) (now.returned - now.pumped);
    }

    int breaks() {
        return now.breaks;
    }

    int greatestShoePressure() {
        return now.greatest;
    }

    int undo() {
        if (saved.isEmpty()) {
            return error(-5);
        }
        now = saved.remove(saved.size() - 1);
        return saved.size();
    }

    int errorCount(int code) {
        return code < -5 || code > -2 ? error(-2) : counters[-code];
    }

    long digest() {
        List<Long> values = new ArrayList<>();
        for (int code = 2; code <= 5; code++) {
            values.add((long) counters[code]);
        }
        int[] settings = {now.depth, now.pipeCapacity, now.annulusCapacity, now.shoe, now.mud,
            now.formation, now.slowPump, now.fracture};
        for (int v : settings) {
            values.add((long) v);
        }
        for (int column = 0; column < 2; column++) {
            List<int[]> all = now.layers(column);
            values.add((long) all.size());
            for (int[] layer : all) {
                values.add((long) layer[0]);
                values.add((long) layer[1]);
            }
        }
        int[] readings = {drillPipePressure(), casingPressure(), standpipePressure(), shoePressure(),
            gain(), breaks(), greatestShoePressure(), saved.size()};
        for (int v : readings) {
            values.add((long) v);
        }
        BigInteger h = BigInteger.valueOf(2693);
        for (long v : values) {
            h = h.multiply(BigInteger.valueOf(31)).add(BigInteger.valueOf(v));
        }
        return h.longValue();
    }
}
