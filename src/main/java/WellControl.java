/**
 * A well control simulator: columns of mud in a drill pipe and in the annulus around it, an influx
 * at the bottom, shut-in pressures, and a comparison of two kill methods.
 */
public final class WellControl {
    public static final int OUT_OF_RANGE = -2;
    public static final int TOO_MUCH = -3;
    public static final int MISSING = -4;
    public static final int NOTHING_SAVED = -5;

    private static final int PIPE = 0;
    private static final int ANNULUS = 1;
    private static final int DRILLERS_METHOD = 0;
    private static final int WAIT_AND_WEIGHT = 1;

    private static final int GREATEST_DENSITY = 2500;
    private static final int GREATEST_PRESSURE = 60000;
    private static final int GREATEST_SLOW_PUMP = 9999;
    private static final int MOST_SAVED = 4;
    private static final int ERROR_CODES = 4;

    /*
     * Count the layers of both columns, and one more while the mud is not that on the top of the pipe:
     * that is 2 in a new well, and no call adds more than one to it, so at most 514 after 512 calls.
     * A kill method adds two at most: its kill mud, and a layer that is cut at the bottom of the pipe.
     */
    private static final int ROOM = 520;

    private Well well;
    private final Well trial;
    private final Well[] saved;
    private int savedCount;
    private final int[] errors;

    public WellControl() {
        well = new Well();
        trial = new Well();
        saved = new Well[MOST_SAVED];
        for (int i = 0; i < MOST_SAVED; i++) {
            saved[i] = new Well();
        }
        savedCount = 0;
        errors = new int[ERROR_CODES];
    }

    public int setGeometry(int depth, int pipeCapacity, int annulusCapacity, int shoe) {
        boolean good = within(depth, 100, 3000) && within(pipeCapacity, 1, 20)
                && within(annulusCapacity, 5, 60) && within(shoe, 1, depth);
        if (!good) {
            return refuse(OUT_OF_RANGE);
        }
        save();
        well.depth = depth;
        well.pipeCapacity = pipeCapacity;
        well.annulusCapacity = annulusCapacity;
        well.shoe = shoe;
        well.startAnew();
        return well.pipeVolume() + well.annulusVolume();
    }

    public int setMud(int density) {
        if (!within(density, 1, GREATEST_DENSITY)) {
            return refuse(OUT_OF_RANGE);
        }
        save();
        int previous = well.mud;
        well.mud = density;
        return previous;
    }

    public int setFormation(int pressure) {
        if (!within(pressure, 0, GREATEST_PRESSURE)) {
            return refuse(OUT_OF_RANGE);
        }
        save();
        int previous = well.formation;
        well.formation = pressure;
        return previous;
    }

    public int setSlowPump(int pressure) {
        if (!within(pressure, 0, GREATEST_SLOW_PUMP)) {
            return refuse(OUT_OF_RANGE);
        }
        save();
        int previous = well.slowPump;
        well.slowPump = pressure;
        return previous;
    }

    public int setFracture(int pressure) {
        if (!within(pressure, 0, GREATEST_PRESSURE)) {
            return refuse(OUT_OF_RANGE);
        }
        save();
        int previous = well.fracture;
        well.fracture = pressure;
        return previous;
    }

    public int pump(int volume) {
        if (volume < 1) {
            return refuse(OUT_OF_RANGE);
        }
        if (!well.canCirculate(volume)) {
            return refuse(TOO_MUCH);
        }
        save();
        well.circulate(volume, well.mud);
        well.checkShoe();
        return well.pressureAtCasing();
    }

    public int influx(int volume, int density) {
        if (volume < 1 || !within(density, 1, GREATEST_DENSITY)) {
            return refuse(OUT_OF_RANGE);
        }
        if (volume > well.annulusVolume()) {
            return refuse(TOO_MUCH);
        }
        save();
        well.letIn(volume, density);
        well.checkShoe();
        return well.pressureAtCasing();
    }

    public int hydrostatic(int column) {
        if (!within(column, PIPE, ANNULUS)) {
            return refuse(OUT_OF_RANGE);
        }
        return well.pressureOfWhole(column);
    }

    public int hydrostaticAbove(int column, int metres) {
        if (!within(column, PIPE, ANNULUS) || !within(metres, 0, well.depth)) {
            return refuse(OUT_OF_RANGE);
        }
        return well.pressureOfPart(column, metres);
    }

    public int drillPipePressure() {
        return well.pressureAtPipe();
    }

    public int casingPressure() {
        return well.pressureAtCasing();
    }

    public int standpipePressure() {
        return well.pressureAtStandpipe();
    }

    public int shoePressure() {
        return well.pressureAtShoe();
    }

    public int allowedCasingPressure() {
        return well.fracture - well.pressureOfPart(ANNULUS, well.shoe);
    }

    public int killDensity() {
        int kill = well.densityToKill();
        return kill == MISSING ? refuse(MISSING) : kill;
    }

    public int killShoePressure(int method, int step) {
        if (!within(method, DRILLERS_METHOD, WAIT_AND_WEIGHT) || !within(step, 100, 9000)) {
            return refuse(OUT_OF_RANGE);
        }
        if (!well.canCirculate(step)) {
            return refuse(TOO_MUCH);
        }
        int kill = well.densityToKill();
        if (kill == MISSING) {
            return refuse(MISSING);
        }
        trial.copyFrom(well);
        trial.greatestAtShoe = 0;
        if (method == DRILLERS_METHOD) {
            trial.circulateInSteps(trial.annulusVolume(), step, trial.mud);
        }
        trial.circulateInSteps(trial.pipeVolume() + trial.annulusVolume(), step, kill);
        return trial.greatestAtShoe;
    }

    public int schedule(int part) {
        if (!within(part, 0, 100)) {
            return refuse(OUT_OF_RANGE);
        }
        int kill = well.densityToKill();
        if (kill == MISSING) {
            return refuse(MISSING);
        }
        long first = well.pressureAtStandpipe();
        long last = (long) well.slowPump * kill / Math.max(1, well.mud);
        return (int) (first + (last - first) * part / 100);
    }

    public int strokesToBit(int stroke) {
        if (!within(stroke, 1, 100)) {
            return refuse(OUT_OF_RANGE);
        }
        return portionsFor(well.pipeVolume(), stroke);
    }

    public int layers(int column) {
        if (!within(column, PIPE, ANNULUS)) {
            return refuse(OUT_OF_RANGE);
        }
        return well.column(column).count;
    }

    public int layerVolume(int column, int index) {
        int error = layerError(column, index);
        if (error != 0) {
            return refuse(error);
        }
        return well.column(column).volumeOf(index);
    }

    public int layerDensity(int column, int index) {
        int error = layerError(column, index);
        if (error != 0) {
            return refuse(error);
        }
        return well.column(column).densityOf(index);
    }

    public int gain() {
        return well.gained;
    }

    public int breaks() {
        return well.timesBroken;
    }

    public int greatestShoePressure() {
        return well.greatestAtShoe;
    }

    public int undo() {
        if (savedCount < 1) {
            return refuse(NOTHING_SAVED);
        }
        savedCount--;
        Well before = saved[savedCount];
        saved[savedCount] = well;
        well = before;
        return savedCount;
    }

    public int errorCount(int code) {
        if (!within(code, NOTHING_SAVED, OUT_OF_RANGE)) {
            return refuse(OUT_OF_RANGE);
        }
        return errors[OUT_OF_RANGE - code];
    }

    public long digest() {
        long h = 2693;
        for (int i = 0; i < ERROR_CODES; i++) {
            h = mixed(h, errors[i]);
        }
        h = well.mixedSettings(h);
        h = well.pipe.mixedLayers(h);
        h = well.annulus.mixedLayers(h);
        h = well.mixedReadings(h);
        return mixed(h, savedCount);
    }

    private static boolean within(int value, int least, int greatest) {
        return value >= least && value <= greatest;
    }

    private static long mixed(long h, long value) {
        return 31 * h + value;
    }

    /** The least number of equal portions that make at least the volume. */
    private static int portionsFor(int volume, int portion) {
        int size = Math.max(1, portion);
        return (volume + size - 1) / size;
    }

    private int layerError(int column, int index) {
        if (!within(column, PIPE, ANNULUS) || index < 0) {
            return OUT_OF_RANGE;
        }
        return index < well.column(column).count ? 0 : MISSING;
    }

    private int refuse(int code) {
        if (within(code, NOTHING_SAVED, OUT_OF_RANGE)) {
            errors[OUT_OF_RANGE - code]++;
        }
        return code;
    }

    private void save() {
        if (savedCount >= MOST_SAVED) {
            dropOldestSaved();
        }
        saved[savedCount].copyFrom(well);
        savedCount++;
    }

    /** The dropped state's object goes to the end, so that it is used again. */
    private void dropOldestSaved() {
        Well dropped = saved[0];
        for (int i = 1; i < MOST_SAVED; i++) {
            saved[i - 1] = saved[i];
        }
        saved[MOST_SAVED - 1] = dropped;
        savedCount = MOST_SAVED - 1;
    }

    /** All that undo brings back. */
    private static final class Well {
        int depth = 1000;
        int pipeCapacity = 9;
        int annulusCapacity = 25;
        int shoe = 400;
        int mud = 1200;
        int formation = 0;
        int slowPump = 2000;
        int fracture = 8000;
        int gained;
        int timesBroken;
        int greatestAtShoe;
        final Column pipe = new Column(true);
        final Column annulus = new Column(false);

        Well() {
            startAnew();
        }

        void startAnew() {
            pipe.clear();
            pipe.enter(pipeVolume(), mud);
            annulus.clear();
            annulus.enter(annulusVolume(), mud);
            gained = 0;
            timesBroken = 0;
            greatestAtShoe = 0;
        }

        void copyFrom(Well other) {
            depth = other.depth;
            pipeCapacity = other.pipeCapacity;
            annulusCapacity = other.annulusCapacity;
            shoe = other.shoe;
            mud = other.mud;
            formation = other.formation;
            slowPump = other.slowPump;
            fracture = other.fracture;
            gained = other.gained;
            timesBroken = other.timesBroken;
            greatestAtShoe = other.greatestAtShoe;
            pipe.copyFrom(other.pipe);
            annulus.copyFrom(other.annulus);
        }

        int pipeVolume() {
            return depth * pipeCapacity;
        }

        int annulusVolume() {
            return depth * annulusCapacity;
        }

        Column column(int number) {
            return number == PIPE ? pipe : annulus;
        }

        int capacity(int number) {
            return number == PIPE ? pipeCapacity : annulusCapacity;
        }

        boolean canCirculate(int volume) {
            return volume <= pipeVolume() && volume <= annulusVolume();
        }

        void circulate(int volume, int density) {
            annulus.release(volume);
            pipe.releaseInto(annulus, volume);
            pipe.enter(volume, density);
        }

        void circulateInSteps(int volume, int step, int density) {
            int steps = portionsFor(volume, step);
            for (int i = 0; i < steps; i++) {
                circulate(step, density);
                checkShoe();
            }
        }

        void letIn(int volume, int density) {
            annulus.release(volume);
            annulus.enter(volume, density);
            gained += volume;
        }

        void checkShoe() {
            int pressure = pressureAtShoe();
            if (pressure > fracture) {
                timesBroken++;
            }
            greatestAtShoe = Math.max(greatestAtShoe, pressure);
        }

        int pressureOfWhole(int number) {
            return pressureOf(column(number).load, capacity(number));
        }

        int pressureOfPart(int number, int metres) {
            int capacity = capacity(number);
            return pressureOf(column(number).loadAbove(metres * capacity), capacity);
        }

        private static int pressureOf(long load, int capacity) {
            return (int) (981 * load / (100000L * Math.max(1, capacity)));
        }

        int pressureAtPipe() {
            return Math.max(0, formation - pressureOfWhole(PIPE));
        }

        int pressureAtCasing() {
            return Math.max(0, formation - pressureOfWhole(ANNULUS));
        }

        int pressureAtStandpipe() {
            return slowPump + pressureAtPipe();
        }

        int pressureAtShoe() {
            return pressureAtCasing() + pressureOfPart(ANNULUS, shoe);
        }

        /** The capacity is not in it: the volume of a full pipe has it as a factor. */
        int densityToKill() {
            long perDensity = 981L * Math.max(1, depth);
            long needed = (100000L * formation + perDensity - 1) / perDensity;
            return needed > GREATEST_DENSITY ? MISSING : (int) Math.max(1, needed);
        }

        long mixedSettings(long h) {
            h = mixed(h, depth);
            h = mixed(h, pipeCapacity);
            h = mixed(h, annulusCapacity);
            h = mixed(h, shoe);
            h = mixed(h, mud);
            h = mixed(h, formation);
            h = mixed(h, slowPump);
            return mixed(h, fracture);
        }

        long mixedReadings(long h) {
            h = mixed(h, pressureAtPipe());
            h = mixed(h, pressureAtCasing());
            h = mixed(h, pressureAtStandpipe());
            h = mixed(h, pressureAtShoe());
            h = mixed(h, gained);
            h = mixed(h, timesBroken);
            return mixed(h, greatestAtShoe);
        }
    }

    /**
     * A queue of layers in a ring of places: mud enters at one end and leaves at the other, in the
     * pipe from the top to the bottom and in the annulus from the bottom to the top. The age of a
     * layer is its place in the queue, 0 for the one that leaves first; its index counts from the
     * top.
     */
    private static final class Column {
        final boolean filledFromTop;
        final int[] volumes = new int[ROOM];
        final int[] densities = new int[ROOM];
        int oldest;
        int count;
        /** The sum of density times volume, kept so that a step of a kill method need not walk. */
        long load;

        Column(boolean filledFromTop) {
            this.filledFromTop = filledFromTop;
        }

        void clear() {
            oldest = 0;
            count = 0;
            load = 0;
        }

        void copyFrom(Column other) {
            clear();
            for (int age = 0; age < other.count; age++) {
                int from = other.placeOfAge(age);
                enter(other.volumes[from], other.densities[from]);
            }
        }

        int placeOfAge(int age) {
            return Math.floorMod(oldest + age, ROOM);
        }

        int placeOfIndex(int index) {
            int age = filledFromTop ? count - 1 - index : index;
            return Math.floorMod(oldest + age, ROOM);
        }

        int volumeOf(int index) {
            return volumes[placeOfIndex(index)];
        }

        int densityOf(int index) {
            return densities[placeOfIndex(index)];
        }

        void enter(int volume, int density) {
            if (!joinsNewest(density)) {
                int added = placeOfAge(count);
                volumes[added] = 0;
                densities[added] = density;
                count++;
            }
            int newest = placeOfAge(count - 1);
            volumes[newest] += volume;
            load += (long) volume * densities[newest];
        }

        /** Without room, which no 512 calls bring about, the newest layer takes all: it stays full. */
        private boolean joinsNewest(int density) {
            return count >= ROOM || count > 0 && densities[placeOfAge(count - 1)] == density;
        }

        void release(int volume) {
            int left = volume;
            for (int n = count; n > 0 && left > 0; n--) {
                left -= releaseOldest(left);
            }
        }

        void releaseInto(Column next, int volume) {
            int left = volume;
            for (int n = count; n > 0 && left > 0; n--) {
                int density = densities[placeOfAge(0)];
                int released = releaseOldest(left);
                next.enter(released, density);
                left -= released;
            }
        }

        /** Takes at most so much off the oldest layer, and answers how much that was. */
        private int releaseOldest(int most) {
            int place = placeOfAge(0);
            int released = Math.min(most, volumes[place]);
            volumes[place] -= released;
            load -= (long) released * densities[place];
            if (volumes[place] == 0) {
                oldest = placeOfAge(1);
                count--;
            }
            return released;
        }

        long loadAbove(int volume) {
            long sum = 0;
            int left = volume;
            for (int index = 0; index < count && left > 0; index++) {
                int place = placeOfIndex(index);
                int part = Math.min(left, volumes[place]);
                sum += (long) part * densities[place];
                left -= part;
            }
            return sum;
        }

        long mixedLayers(long h) {
            h = mixed(h, count);
            for (int index = 0; index < count; index++) {
                int place = placeOfIndex(index);
                h = mixed(h, volumes[place]);
                h = mixed(h, densities[place]);
            }
            return h;
        }
    }
}
