/** Compares a whole column of a well with the one that is due. */
final class Columns {
    private Columns() {
    }

    /** The layers from the top, for each its volume and its density. */
    static void due(WellControl x, int column, int... layers) {
        int count = layers.length / 2;
        Due.due("layers(" + column + ")", x.layers(column), count);
        for (int i = 0; i < count; i++) {
            Due.due("layerVolume(" + column + ", " + i + ")", x.layerVolume(column, i),
                    layers[2 * i]);
            Due.due("layerDensity(" + column + ", " + i + ")", x.layerDensity(column, i),
                    layers[2 * i + 1]);
        }
        Due.due("layerVolume below the last", x.layerVolume(column, count), -4);
        Due.due("layerDensity below the last", x.layerDensity(column, count), -4);
    }

    static long volume(WellControl x, int column) {
        long sum = 0;
        int count = x.layers(column);
        for (int i = 0; i < count; i++) {
            sum += x.layerVolume(column, i);
        }
        return sum;
    }
}
