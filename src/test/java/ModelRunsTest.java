import java.lang.reflect.InvocationTargetException;
import java.lang.reflect.Method;
import java.util.Arrays;
import java.util.Comparator;
import java.util.Random;

/** Runs of drawn calls, all promises mixed, whose answers are compared with Model's. */
public final class ModelRunsTest {
    private static final int RUNS = 1500;
    private static final int CALLS = 512;
    private static final int[] ODD = {
        Integer.MIN_VALUE, Integer.MIN_VALUE + 1, -65536, -32, -2, -1, 31, 32, 33, 61, 64, 99, 100, 101, 201,
        255, 256, 1000, 65536, Integer.MAX_VALUE - 1, Integer.MAX_VALUE
    };

    private final Random random;
    private final TannedMen real = new TannedMen();
    private final Model model = new Model();
    private final StringBuilder run = new StringBuilder();
    private int left = CALLS;
    private boolean same = true;

    private ModelRunsTest(long seed) {
        random = new Random(seed);
    }

    public static void main(String[] args) throws ReflectiveOperationException {
        Check check = new Check("ModelRunsTest");
        Method[] calls = TannedMen.class.getDeclaredMethods();
        calls = Arrays.stream(calls).filter(m -> java.lang.reflect.Modifier.isPublic(m.getModifiers()))
            .sorted(Comparator.comparing(Method::getName)).toArray(Method[]::new);
        for (int i = 0; i < RUNS; i++) {
            ModelRunsTest one = new ModelRunsTest(i);
            one.go(calls);
            check.holds("run " + i + one.run, one.same);
            if (!one.same) {
                break;
            }
        }
        check.end();
    }

    private void go(Method[] calls) throws ReflectiveOperationException {
        int texts = random.nextInt(8) == 0 ? 6 : 1;
        while (left > 0 && same) {
            if (texts > 0 || random.nextInt(150) == 0) {
                texts--;
                feed();
                continue;
            }
            Method method = calls[random.nextInt(calls.length)];
            String name = method.getName();
            if (name.equals("yard") || name.equals("feed") || random.nextInt(3) > 0 && name.matches("tear|keep|goBack")) {
                continue;
            }
            int[] arguments = new int[method.getParameterCount()];
            for (int i = 0; i < arguments.length; i++) {
                arguments[i] = argument(name, i);
            }
            call(name, arguments);
        }
    }

    private void feed() throws ReflectiveOperationException {
        String text = text();
        for (int i = 0; i < text.length(); i++) {
            call("feed", text.charAt(i));
        }
        call("yard");
        call("fault");
    }

    private void call(String name, int... arguments) throws ReflectiveOperationException {
        if (left == 0 || !same) {
            return;
        }
        left--;
        int got = invoke(TannedMen.class, real, name, arguments);
        int due = invoke(Model.class, model, name, arguments);
        same = got == due;
        run.append("\n  ").append(name).append(Arrays.toString(arguments)).append(" = ").append(got);
        if (!same) {
            run.append(", due is ").append(due);
        }
    }

    private static int invoke(Class<?> type, Object on, String name, int[] arguments) throws ReflectiveOperationException {
        Class<?>[] ints = new Class<?>[arguments.length];
        Arrays.fill(ints, int.class);
        Object[] boxed = Arrays.stream(arguments).boxed().toArray();
        Method method = type.getDeclaredMethod(name, ints);
        try {
            return (int) method.invoke(on, boxed);
        } catch (InvocationTargetException thrown) {
            throw new AssertionError(name + Arrays.toString(arguments) + " threw", thrown.getCause());
        }
    }

    /** Mostly within the bounds of the call, at times just or far outside of them. */
    private int argument(String name, int at) {
        if (random.nextInt(40) == 0) {
            return ODD[random.nextInt(ODD.length)];
        }
        if (random.nextInt(40) == 0) {
            return random.nextInt();
        }
        int most = new int[] {
            model.told(2), model.told(3), 5, 6
        }[random.nextInt(4)];
        switch (name + at) {
            case "told0": return random.nextInt(17) - 1;
            case "month0": case "drift0": return random.nextInt(4) == 0 ? random.nextInt(63) : random.nextInt(6);
            case "bark0": return random.nextInt(11);
            case "scrape2": return random.nextInt(4) == 0 ? random.nextInt(33) : random.nextInt(5);
            case "thick2": case "through0": return random.nextInt(2) == 0 ? random.nextInt(203) : random.nextInt(40);
            case "edge1": case "edge2": case "scraping1":
                return random.nextInt(1 << model.told(3)) & random.nextInt(1 << model.told(3));
            case "edge3": case "stays1": return random.nextInt(4);
            case "man1": return random.nextInt(6);
            case "skin2": case "saying1": case "when2": case "through1": return random.nextInt(3);
            case "quiet0": return random.nextInt(62);
            case "quiet1": return random.nextInt(102);
            case "hear2": return heardPain();
            case "write1": return random.nextInt(3) == 0 ? random.nextInt(100001) : Math.max(0, model.man(0, 2));
            case "seed0": return random.nextInt() >>> 1;
            case "keep0": case "goBack0": return random.nextInt(3);
            case "say0": case "saying0": case "hurt1": case "when1": case "hear1":
                return random.nextInt(model.told(3) + 1) - random.nextInt(20) / 19;
            case "scrape1": case "skin1": case "thick1": return random.nextInt(6);
            default: return random.nextInt(Math.max(1, random.nextInt(8) == 0 ? most : model.told(2)));
        }
    }

    private int heardPain() {
        int pain = model.hurt(random.nextInt(6), random.nextInt(8));
        return pain >= 0 && random.nextInt(3) > 0 ? pain : random.nextInt(8) == 0 ? random.nextInt(101) : 0;
    }

    /** A text of a yard, at times with a letter more, less or other. */
    private String text() {
        StringBuilder text = new StringBuilder();
        text.append('t').append(gap(false)).append(1 + random.nextInt(3)).append(gap(true));
        text.append(1 + random.nextInt(9)).append(gap(false)).append(';');
        int men = random.nextInt(7);
        int sayings = random.nextInt(9);
        int softest = 1 + random.nextInt(31);
        int sharpest = 1 + random.nextInt(60);
        while (men + sayings > 0) {
            if (random.nextInt(men + sayings) < men) {
                men--;
                man(text, softest);
            } else {
                sayings--;
                text.append('s').append(gap(false)).append(random.nextInt(5)).append(gap(true));
                text.append(1 + random.nextInt(sharpest)).append(gap(false)).append(';').append(gap(false));
            }
        }
        int changes = random.nextInt(4) == 0 ? 1 + random.nextInt(2) : 0;
        for (int i = 0; i < changes; i++) {
            change(text);
        }
        return text.toString();
    }

    private void man(StringBuilder text, int softest) {
        text.append('m').append(gap(false)).append(random.nextInt(4));
        for (int p = 0; p < 5; p++) {
            text.append(p == 0 ? gap(true) : ",").append(gap(false)).append(random.nextInt(softest)).append(gap(false));
        }
        text.append(';');
    }

    private String gap(boolean due) {
        if (random.nextInt(25) == 0) {
            return "  ";
        }
        return due || random.nextInt(25) == 0 ? " " : "";
    }

    private void change(StringBuilder text) {
        String letters = "tms0123456789,; x" + (char) 0 + (char) 255;
        int at = random.nextInt(text.length());
        char letter = letters.charAt(random.nextInt(letters.length()));
        switch (random.nextInt(4)) {
            case 0 -> text.setCharAt(at, letter);
            case 1 -> text.insert(at, letter);
            case 2 -> text.deleteCharAt(at);
            default -> text.setLength(at + 1);
        }
    }
}
