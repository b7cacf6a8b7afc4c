import java.lang.reflect.InvocationTargetException;
import java.lang.reflect.Method;
import java.util.Arrays;
import java.util.Random;

/** All promises: long runs of calls, drawn from fixed seeds, answer as the Model does. */
public final class ModelTest {
    private static final int RUNS = 2000;
    private static final int CALLS = 512;
    private static final String[] NAMES = {"edit", "erase", "siblings", "counter", "byteOf", "visit", "cut", "lose",
        "copy", "known", "marks", "bytes", "same", "room", "item", "leftOut"};
    // How often each call of NAMES is drawn: most change something, or look where much can differ.
    private static final int[] WEIGHTS = {24, 6, 3, 6, 3, 26, 8, 1, 2, 8, 2, 2, 3, 2, 8, 1};

    private final Check check = new Check("ModelTest");
    private Random random;
    private int documents;
    private int leastLength;
    private int mostLength;
    private boolean toTheLastCounter;

    public static void main(String[] args) throws ReflectiveOperationException {
        ModelTest test = new ModelTest();
        for (int run = 0; run < RUNS; run++) {
            test.drawKindOfRun(run);
            test.compare(run);
        }
        test.check.end();
    }

    // Few documents make siblings, many fill the stations; lengths decide what is left out or has no room.
    private void drawKindOfRun(int run) {
        random = new Random(run);
        documents = 1 + random.nextInt(10);
        mostLength = random.nextInt(4) == 0 ? 2 : 40;
        leastLength = random.nextInt(3) == 0 ? mostLength * 3 / 4 : 0;
        toTheLastCounter = run % 20 == 0;
    }

    private void compare(int run) throws ReflectiveOperationException {
        FolderRounds x = new FolderRounds();
        Model model = new Model();
        for (int i = 0; i < CALLS; i++) {
            String name = drawName();
            Object[] arguments = drawArguments(name);
            Object got = answer(x, name, arguments);
            Object want = answer(model, name, arguments);
            if (!got.equals(want)) {
                check.due("run " + run + ", call " + i + ": " + name + Arrays.toString(arguments), got, want);
                return;
            }
        }
        check.due("run " + run, "as the model", "as the model");
    }

    private static Object answer(Object on, String name, Object[] arguments) throws ReflectiveOperationException {
        Class<?>[] types = new Class<?>[arguments.length];
        Arrays.fill(types, int.class);
        Method method = on.getClass().getDeclaredMethod(name, types);
        try {
            Object answer = method.invoke(on, arguments);
            return answer == null ? "nothing" : answer;
        } catch (InvocationTargetException e) {
            return e.getCause().getClass();
        }
    }

    private String drawName() {
        if (toTheLastCounter && random.nextInt(4) != 0) {
            return random.nextInt(8) == 0 ? "erase" : "edit";
        }
        int drawn = random.nextInt(Arrays.stream(WEIGHTS).sum());
        int call = 0;
        while (drawn >= WEIGHTS[call]) {
            drawn -= WEIGHTS[call];
            call++;
        }
        return NAMES[call];
    }

    private Object[] drawArguments(String name) {
        return switch (name) {
            case "edit" -> new Object[] {drawEditor(), drawDocument(), drawLength(), draw(256)};
            case "erase" -> new Object[] {drawEditor(), drawDocument()};
            case "siblings" -> new Object[] {draw(4), drawDocument()};
            case "counter" -> new Object[] {draw(4), drawDocument(), random.nextInt(4), draw(4)};
            case "byteOf" -> new Object[] {draw(4), drawDocument(), random.nextInt(3), random.nextInt(12) - 2};
            case "visit" -> new Object[] {draw(3), draw(4), drawDestinations()};
            case "cut" -> new Object[] {draw(3), draw(4), drawDestinations(), random.nextInt(16) - 1};
            case "known" -> new Object[] {draw(4), draw(4), drawDocument(), draw(4)};
            case "lose", "room" -> new Object[] {draw(3)};
            case "copy" -> new Object[] {draw(3), draw(3)};
            case "marks", "bytes" -> new Object[] {draw(4)};
            case "same" -> new Object[] {draw(4), draw(4)};
            case "item" -> new Object[] {draw(3), random.nextInt(13) - 1, draw(6)};
            default -> new Object[0];
        };
    }

    private int drawEditor() {
        return toTheLastCounter && random.nextInt(5) != 0 ? 1 : draw(4);
    }

    private int drawDocument() {
        return toTheLastCounter && random.nextInt(5) != 0 ? 1 : draw(documents);
    }

    private int drawLength() {
        int drawn = random.nextInt(200);
        return drawn == 0 ? -1 : drawn == 1 ? 41 : leastLength + random.nextInt(mostLength - leastLength + 1);
    }

    private int drawDestinations() {
        return random.nextInt(3) == 0 ? -1 : random.nextInt(32);
    }

    /** Mostly 0 .. end - 1, now and then one beside it. */
    private int draw(int end) {
        int drawn = random.nextInt(200);
        return drawn == 0 ? -1 : drawn == 1 ? end : random.nextInt(end);
    }
}
