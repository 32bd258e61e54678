import java.util.function.ToIntFunction;

/**
 * A refused call changes nothing but the counter of its code. Two wells are made by the same calls and
 * one of them is asked; from then on, through all saved states, both must answer alike.
 */
final class Refusal {
    private static final int[] CODES = {-2, -3, -4, -5};

    private final String call;
    private final int code;
    private final WellControl asked;
    private final WellControl twin;

    private Refusal(String call, int code, Start start) {
        this.call = call + " on " + start;
        this.code = code;
        this.asked = start.make();
        this.twin = start.make();
    }

    /** On every kind of well. */
    static void due(String call, int code, ToIntFunction<WellControl> asking) {
        for (Start start : Start.values()) {
            due(call, code, start, asking);
        }
    }

    static void due(String call, int code, Start start, ToIntFunction<WellControl> asking) {
        Refusal refusal = new Refusal(call, code, start);
        Due.due(refusal.call, asking.applyAsInt(refusal.asked), code);
        refusal.restIsAlike();
    }

    /** Behind calls that must be answered alike and prepare what is refused. */
    static void due(String call, int code, ToIntFunction<WellControl> preparing,
            ToIntFunction<WellControl> asking) {
        Refusal refusal = new Refusal(call, code, Start.NEW);
        refusal.alike("the preparation", preparing);
        Due.due(refusal.call, asking.applyAsInt(refusal.asked), code);
        refusal.restIsAlike();
    }

    private void restIsAlike() {
        for (int undone = 0; undone <= 5; undone++) {
            counters();
            columns();
            readings();
            digest();
            alike("undo()", WellControl::undo);
        }
    }

    private void alike(String reading, ToIntFunction<WellControl> asking) {
        Due.due(reading + " behind " + call, asking.applyAsInt(asked), asking.applyAsInt(twin));
    }

    private void counters() {
        for (int c : CODES) {
            int more = c == code ? 1 : 0;
            Due.due("errorCount(" + c + ") behind " + call, asked.errorCount(c),
                    twin.errorCount(c) + more);
        }
    }

    private void columns() {
        for (int n = 0; n <= 1; n++) {
            int column = n;
            alike("layers(" + n + ")", x -> x.layers(column));
            for (int i = 0; i < twin.layers(n); i++) {
                int index = i;
                alike("layerVolume(" + n + ", " + i + ")", x -> x.layerVolume(column, index));
                alike("layerDensity(" + n + ", " + i + ")", x -> x.layerDensity(column, index));
            }
        }
    }

    private void readings() {
        alike("hydrostatic(0)", x -> x.hydrostatic(0));
        alike("hydrostatic(1)", x -> x.hydrostatic(1));
        alike("drillPipePressure()", WellControl::drillPipePressure);
        alike("casingPressure()", WellControl::casingPressure);
        alike("standpipePressure()", WellControl::standpipePressure);
        alike("shoePressure()", WellControl::shoePressure);
        alike("allowedCasingPressure()", WellControl::allowedCasingPressure);
        alike("killDensity()", WellControl::killDensity);
        alike("strokesToBit(1)", x -> x.strokesToBit(1));
        alike("gain()", WellControl::gain);
        alike("breaks()", WellControl::breaks);
        alike("greatestShoePressure()", WellControl::greatestShoePressure);
    }

    /** One more in a counter weighs 31 to the power of the number of values behind it. */
    private void digest() {
        int values = 22 + 2 * (twin.layers(0) + twin.layers(1));
        int behind = values - 1 - (-2 - code);
        long weight = 1;
        for (int i = 0; i < behind; i++) {
            weight *= 31;
        }
        Due.due("digest() behind " + call, asked.digest(), twin.digest() + weight);
    }
}
