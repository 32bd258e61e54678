import java.lang.reflect.Constructor;
import java.lang.reflect.Field;
import java.lang.reflect.Method;
import java.lang.reflect.Modifier;
import java.nio.file.Files;
import java.nio.file.Path;
import java.util.Set;
import java.util.TreeSet;
import java.util.regex.Matcher;
import java.util.regex.Pattern;

/** The rules of LANGUAGE.md that can be seen from the class and its source. */
public final class LanguageTest {
    private static final String[] FACE = {"setGeometry(int,int,int,int):int", "setMud(int):int",
        "setFormation(int):int", "setSlowPump(int):int", "setFracture(int):int", "pump(int):int",
        "influx(int,int):int", "hydrostatic(int):int", "hydrostaticAbove(int,int):int",
        "drillPipePressure():int", "casingPressure():int", "standpipePressure():int",
        "shoePressure():int", "allowedCasingPressure():int", "killDensity():int",
        "killShoePressure(int,int):int", "schedule(int):int", "strokesToBit(int):int",
        "layers(int):int", "layerVolume(int,int):int", "layerDensity(int,int):int", "gain():int",
        "breaks():int", "greatestShoePressure():int", "undo():int", "errorCount(int):int",
        "digest():long"};
    private static final String[] FORBIDDEN = {"\\b(throw|throws|try|catch|finally|synchronized|assert)\\b",
        "->", "::", "\\bimport\\b", "\\bpackage\\b", "\\bObject\\b", "\\bException\\b", "Exact\\b",
        "\\bSystem\\b", "\\bThread\\b", "\\b(float|double)\\b", "\\bstatic\\s*\\{"};

    private static final Set<String> LIBRARY = Set.of("Math.max", "Math.min", "Math.floorMod");

    public static void main(String[] args) throws Exception {
        methods();
        constants();
        classesInside();
        sizes();
        source();
        library();
        lengths();
        Due.end();
    }

    private static void methods() {
        Set<String> seen = new TreeSet<>();
        Set<String> hidden = new TreeSet<>();
        for (Method m : WellControl.class.getDeclaredMethods()) {
            if (Modifier.isPrivate(m.getModifiers())) {
                hidden.add(m.getName());
            } else {
                Due.holds(m.getName() + " is public and no more",
                        m.getModifiers() == Modifier.PUBLIC);
                seen.add(signature(m));
            }
        }
        Due.holds("the methods are " + Set.of(FACE) + ", not " + seen, seen.equals(Set.of(FACE)));
        for (String method : FACE) {
            Due.holds("no private " + method, !hidden.contains(method.replaceAll("\\(.*", "")));
        }
        Constructor<?>[] made = WellControl.class.getDeclaredConstructors();
        Due.holds("one public constructor without parameters", made.length == 1
                && Modifier.isPublic(made[0].getModifiers()) && made[0].getParameterCount() == 0);
        Due.holds("public and final",
                WellControl.class.getModifiers() == (Modifier.PUBLIC | Modifier.FINAL));
    }

    private static String signature(Method m) {
        StringBuilder text = new StringBuilder(m.getName()).append('(');
        String between = "";
        for (Class<?> type : m.getParameterTypes()) {
            text.append(between).append(type.getName());
            between = ",";
        }
        return text.append("):").append(m.getReturnType().getName()).toString();
    }

    private static void constants() {
        Due.due("OUT_OF_RANGE", WellControl.OUT_OF_RANGE, -2);
        Due.due("TOO_MUCH", WellControl.TOO_MUCH, -3);
        Due.due("MISSING", WellControl.MISSING, -4);
        Due.due("NOTHING_SAVED", WellControl.NOTHING_SAVED, -5);
        int seen = 0;
        for (Field f : WellControl.class.getDeclaredFields()) {
            boolean hidden = Modifier.isPrivate(f.getModifiers());
            seen += hidden ? 0 : 1;
            Due.holds(f.getName() + " is private or a constant", hidden || f.getModifiers()
                    == (Modifier.PUBLIC | Modifier.STATIC | Modifier.FINAL));
        }
        Due.due("visible fields", seen, 4);
    }

    private static void classesInside() {
        noStaticState(WellControl.class);
        for (Class<?> inside : WellControl.class.getDeclaredClasses()) {
            String name = inside.getSimpleName();
            Due.holds(name + " is static", Modifier.isStatic(inside.getModifiers()));
            noStaticState(inside);
            for (Method m : inside.getDeclaredMethods()) {
                for (String method : FACE) {
                    Due.holds("no " + method + " in " + name,
                            !method.startsWith(m.getName() + "("));
                }
            }
        }
    }

    private static void noStaticState(Class<?> holder) {
        for (Field f : holder.getDeclaredFields()) {
            Due.holds(f.getName() + " is no static state", !Modifier.isStatic(f.getModifiers())
                    || Modifier.isFinal(f.getModifiers()) && f.getType() == int.class);
        }
    }

    private static void sizes() {
        Class<?>[] inside = WellControl.class.getDeclaredClasses();
        Due.holds("at most twelve classes", inside.length + 1 <= 12);
        size(WellControl.class);
        for (Class<?> one : inside) {
            size(one);
        }
    }

    private static void size(Class<?> one) {
        int fields = 0;
        for (Field f : one.getDeclaredFields()) {
            fields += Modifier.isStatic(f.getModifiers()) ? 0 : 1;
        }
        Due.holds("at most twenty fields in " + one.getName(), fields <= 20);
        for (Method m : one.getDeclaredMethods()) {
            Due.holds("at most seven parameters of " + m.getName(), m.getParameterCount() <= 7);
        }
    }

    private static String text() throws Exception {
        return Files.readString(Path.of("src/main/java/WellControl.java"));
    }

    private static String code() throws Exception {
        return text().replaceAll("(?s)/\\*.*?\\*/", "").replaceAll("//.*", "");
    }

    private static void source() throws Exception {
        for (char sign : text().toCharArray()) {
            if (sign > 127) {
                Due.holds("only signs to 127, not " + (int) sign, false);
            }
        }
        String code = code();
        for (String pattern : FORBIDDEN) {
            Due.holds("no " + pattern, !Pattern.compile(pattern).matcher(code).find());
        }
    }

    private static void library() throws Exception {
        Matcher used = Pattern.compile("\\b([A-Z][a-z]\\w*)\\.(\\w+)").matcher(code());
        while (used.find()) {
            Due.holds("the language has " + used.group(), LIBRARY.contains(used.group()));
        }
    }

    /** A method begins four or eight signs from the left, and ends with a brace that stands there. */
    private static void lengths() throws Exception {
        String[] lines = text().split("\n");
        int seen = 0;
        for (int i = 0; i < lines.length; i++) {
            Matcher begin = Pattern.compile("( {4}| {8})\\w[^=]*\\) \\{").matcher(lines[i]);
            if (begin.matches()) {
                seen++;
                int end = i;
                while (end < lines.length && !lines[end].equals(begin.group(1) + "}")) {
                    end++;
                }
                Due.holds("at most sixty lines: " + lines[i], end - i <= 60);
            }
        }
        Due.holds("the methods were seen", seen >= FACE.length);
    }
}
