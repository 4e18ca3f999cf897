import java.lang.reflect.InvocationTargetException;
import java.lang.reflect.Method;
import java.lang.reflect.Modifier;
import java.util.ArrayList;
import java.util.HashMap;
import java.util.List;
import java.util.Map;

/**
 * Every promise: in runs of random calls, with wrong inputs among them, the program answers each call
 * as the model does, and then a part of all that can be seen is the same. No object gets more than
 * 512 calls.
 */
public final class ModelTest {
    private static final int RUNS = 3000;
    private static final int MOST_CALLS = 512;
    private static final int LEAST_STEPS = 160;
    private static final int MOST_LOOKS = 172;

    private static final Map<String, Integer> COUNTED = new HashMap<>();

    private final TwinRooms program = new TwinRooms();
    private final Model model = new Model();
    private final List<String> told = new ArrayList<>();
    private final AnyCalls any;
    private boolean differs;

    private ModelTest(long seed) {
        any = new AnyCalls(seed, model);
    }

    public static void main(String[] args) throws ReflectiveOperationException {
        for (int run = 0; run < RUNS; run++) {
            Due.on("run " + run);
            ModelTest walk = new ModelTest(run);
            walk.goOn(run);
            Due.yes("512 calls: " + walk.told.size(), walk.told.size() <= MOST_CALLS);
        }
        enoughHappened();
        Due.end();
    }

    /** The runs are no test of what never happens in them. */
    private static void enoughHappened() {
        String[] due = {
            "road 1", "road 0", "card 0", "unit 0", "status 0", "ask STATE", "ask ARGUMENT", "take 100", "take 108",
            "take 0", "take 7", "take 15", "take STATE", "answer 0", "answer 5", "answer STATE", "order 5",
            "order -1", "order STATE", "order ARGUMENT", "close null", "close STATE", "store STATE",
            "deliver 0", "twin 0", "lose 0", "crash 0", "mount 0", "mount 1", "questions -1", "nearest 5",
            "eta -1", "letters 48", "tick ARGUMENT",
        };
        for (Method method : TwinRooms.class.getDeclaredMethods()) {
            boolean called = COUNTED.keySet().stream().anyMatch(key -> key.startsWith(method.getName() + " "));
            Due.yes(method + " was called", called || !Modifier.isPublic(method.getModifiers()));
        }
        for (String answer : due) {
            Due.yes(answer + " came ten times: " + COUNTED.get(answer), COUNTED.getOrDefault(answer, 0) >= 10);
        }
    }

    private void goOn(int run) throws ReflectiveOperationException {
        begin();
        int calls = LEAST_STEPS + any.random.nextInt(MOST_CALLS - MOST_LOOKS - LEAST_STEPS);
        while (told.size() < calls && !differs) {
            if (any.flood && any.random.nextInt(3) == 0) {
                call("twin", 0);
            } else {
                String[] words = any.next();
                call(words[1], any.inputsOf(words));
            }
        }
        look(run % 6);
    }

    /** Most runs begin with a town, units that the rooms know of, and a room in charge. */
    private void begin() throws ReflectiveOperationException {
        if (any.random.nextInt(8) == 0) {
            return;
        }
        for (int k = 0; k < 3 * any.junctions; k++) {
            call("road", k % any.junctions, any.random.nextInt(any.junctions), 1 + any.random.nextInt(70));
        }
        for (int n = 0; n < 5; n++) {
            call("card", n, 1 + any.random.nextInt(8), 1 + any.random.nextInt(8), n < 2 ? 0 : any.random.nextInt(6));
        }
        for (int u = 0; u < any.units; u++) {
            call("unit", u, any.random.nextInt(any.junctions), any.random.nextInt(3));
            call("status", u, 0);
            call("deliver", 0);
            call("deliver", 0);
        }
        for (int d = 0; d < any.districts; d++) {
            call("district", any.random.nextInt(any.junctions), d);
            call("ask", any.random.nextInt(2), d);
            call("deliver", 0);
            call("deliver", 0);
        }
    }

    private void call(String name, Object... inputs) throws ReflectiveOperationException {
        Class<?>[] kinds = new Class<?>[inputs.length];
        for (int k = 0; k < inputs.length; k++) {
            kinds[k] = inputs[k] instanceof Boolean ? boolean.class : int.class;
        }
        Object due = answerOf(Model.class.getDeclaredMethod(name, kinds), model, inputs);
        Object got = answerOf(TwinRooms.class.getMethod(name, kinds), program, inputs);
        told.add(name + List.of(inputs) + " " + got);
        COUNTED.merge(name + " " + got, 1, Integer::sum);
        boolean same = due == null ? got == null : due.equals(got);
        Due.yes("call " + told.size() + ", " + name + List.of(inputs) + " " + got + ": as due, " + due, same);
        if (!same && !differs) {
            differs = true;
            System.out.println(String.join("\n", told));
        }
    }

    private static Object answerOf(Method method, Object object, Object[] inputs) throws ReflectiveOperationException {
        try {
            Object answer = method.invoke(object, inputs);
            return answer instanceof Boolean ? ((Boolean) answer ? (Object) 1 : (Object) 0) : answer;
        } catch (InvocationTargetException e) {
            Class<?> thrown = e.getCause().getClass();
            if (thrown == IllegalArgumentException.class) {
                return "ARGUMENT";
            }
            if (thrown == IllegalStateException.class) {
                return "STATE";
            }
            throw e;
        }
    }

    private void look(int part) throws ReflectiveOperationException {
        if (part < 3) {
            lookAtCalls(part);
        } else if (part == 3) {
            lookAtLetters();
        } else if (part == 4) {
            lookAtUnits();
        } else {
            lookAtWays();
        }
    }

    private void lookAtCalls(int who) throws ReflectiveOperationException {
        for (int call = 0; call < 16; call++) {
            for (int what = 0; what < 9; what++) {
                call("callKnown", who, call, what);
            }
        }
    }

    private void lookAtLetters() throws ReflectiveOperationException {
        for (int i = 0; i < Math.min(model.letters(), MOST_LOOKS / 5); i++) {
            for (int what = 0; what < 5; what++) {
                call("letter", i, what);
            }
        }
    }

    private void lookAtUnits() throws ReflectiveOperationException {
        for (int u = 0; u < 6; u++) {
            for (int what = 0; what < 6; what++) {
                call("unitIs", u, what);
                call("unitKnown", 0, u, what);
                call("unitKnown", 1, u, what);
            }
        }
        for (int d = 0; d < 4; d++) {
            call("grantOf", 0, d);
            call("grantOf", 1, d);
        }
    }

    private void lookAtWays() throws ReflectiveOperationException {
        for (int junction = 0; junction < 12; junction++) {
            for (int i = 0; i < 6; i++) {
                call("nearest", i % 2, i / 2, junction, 0);
                call("eta", i, junction);
            }
        }
        for (int node = 0; node < 16; node++) {
            call("questions", node);
        }
        for (int i = 0; i < 6; i++) {
            call("nearest", 0, 0, 0, i);
            call("nearest", 1, 0, 1, i);
        }
    }
}
