import java.util.Random;

/**
 * Random calls of the face, with wrong inputs among them. Each run has habits of its own: how much of
 * the town it uses, how fast its time and its letters go.
 */
final class AnyCalls {
    private static final int GRADE = 2;
    private static final int STATE = 3;
    private static final int CLOSED = 2;

    /** How often, the name, and of what kind its inputs are. */
    private static final String[] FACE = {
        "6 road junction junction seconds",
        "2 district junction district",
        "4 card node node node grade",
        "2 questions node",
        "6 unit unit junction skill",
        "14 status unit state",
        "4 speed room speed",
        "6 tick time",
        "12 ask room district",
        "4 grantOf room district",
        "14 take room junction hash",
        "12 answer room call yes",
        "16 order room call",
        "3 close room call",
        "8 store room call",
        "1 letters",
        "4 letter letter what",
        "60 deliver letter",
        "4 lose letter",
        "6 twin letter",
        "1 crash room",
        "9 mount room",
        "3 eta unit junction",
        "5 nearest room skill junction place",
        "4 unitIs unit what",
        "4 unitKnown room unit what",
        "8 callKnown who call what",
    };

    final Random random;
    final int junctions;
    final int districts;
    final int units;
    /** Whether letters are doubled until no more can wait. */
    final boolean flood;
    private final Model model;
    private final int hashes;
    private final int disorder;
    private final int haste;
    private final int slowPost;

    AnyCalls(long seed, Model model) {
        this.model = model;
        random = new Random(seed);
        junctions = 2 + random.nextInt(11);
        districts = 1 + random.nextInt(4);
        hashes = 1 + random.nextInt(4);
        units = 1 + random.nextInt(6);
        disorder = 1 + random.nextInt(12);
        haste = random.nextInt(4);
        slowPost = random.nextInt(4);
        flood = random.nextInt(8) == 0;
    }

    /** How often, the name, the kinds of its inputs. */
    String[] next() {
        String[] words = FACE[anyRow()].split(" ");
        boolean slow = words[1].equals("deliver") && random.nextInt(4) < slowPost;
        return slow && random.nextInt(4) > 0 ? next() : words;
    }

    private int anyRow() {
        int sum = 0;
        for (int row = 0; row < FACE.length; row++) {
            sum += howOften(row);
        }
        int place = random.nextInt(sum);
        int row = 0;
        while (place >= howOften(row)) {
            place -= howOften(row);
            row++;
        }
        return row;
    }

    private static int howOften(int row) {
        return Integer.parseInt(FACE[row].substring(0, FACE[row].indexOf(' ')));
    }

    /** Without some choice most calls would be refused, and little would ever happen. */
    Object[] inputsOf(String[] words) {
        Object[] inputs = anyInputs(words);
        int tries = random.nextInt(12);
        for (int k = 0; k < tries && !isPromising(words[1], inputs); k++) {
            inputs = anyInputs(words);
        }
        return inputs;
    }

    private Object[] anyInputs(String[] words) {
        Object[] inputs = new Object[words.length - 2];
        for (int k = 0; k < inputs.length; k++) {
            inputs[k] = anyInput(words[k + 2]);
        }
        return inputs;
    }

    private boolean isPromising(String name, Object[] inputs) {
        switch (name) {
            case "take": return model.mayWorkAt((int) inputs[0], (int) inputs[1]);
            case "answer": return mayWorkOn(inputs) && known(inputs, GRADE) == 0;
            case "order", "close": return mayWorkOn(inputs) && known(inputs, STATE) != CLOSED;
            case "store", "callKnown": return known(inputs, 0) != TwinRooms.NONE;
            case "status": return goesOn(model.unitIs((int) inputs[0], 0), (int) inputs[1]);
            default: return true;
        }
    }

    /** From MOVING to AT SCENE, and to FREE; a unit that is FREE mostly stays so. */
    private static boolean goesOn(int from, int to) {
        return to == (from == 1 ? 2 : 0);
    }

    private boolean mayWorkOn(Object[] inputs) {
        return model.mayWorkAt((int) inputs[0], known(inputs, 0));
    }

    private int known(Object[] inputs, int what) {
        return model.callKnown((int) inputs[0], (int) inputs[1], what);
    }

    private Object anyInput(String kind) {
        switch (kind) {
            case "junction": return within(junctions, 12);
            case "district": return within(districts, 4);
            case "node": return within(random.nextInt(3) == 0 ? 16 : 5, 16);
            case "unit": return within(units, 6);
            case "room": return within(2, 2);
            case "who": return within(3, 3);
            case "skill": return within(3, 3);
            case "state": return within(4, 4);
            case "grade": return random.nextBoolean() ? 0 : within(6, 6);
            case "speed": return 49 + within(3, 3);
            case "hash": return random.nextInt(hashes);
            case "what": return within(9, 9);
            case "place": return within(6, 6);
            case "yes": return random.nextBoolean();
            case "seconds": return random.nextInt(3) == 0 ? within(1000, 1000) : within(70, 1000);
            case "time": return anyTime();
            case "call": return 8 * random.nextInt(2) + within(random.nextInt(4) == 0 ? 8 : 3, 8);
            default: return anyLetter();
        }
    }

    /** Now and then the first outside, or an end of int. */
    private int within(int used, int bound) {
        if (random.nextInt(60) > 0) {
            return random.nextInt(used);
        }
        int[] wrong = Edges.outside(0, bound - 1);
        return wrong[random.nextInt(wrong.length)];
    }

    private int anyTime() {
        int[] edges = {0, 1000, -1, 1001, Integer.MIN_VALUE, Integer.MAX_VALUE};
        if (random.nextInt(30) == 0) {
            return edges[random.nextInt(edges.length)];
        }
        int[] few = {1, 1, 1, 2, 19, 20, 38, 39, 40, 41, 42};
        return haste == 3 ? few[random.nextInt(few.length)] : random.nextInt(2 + 6 * haste);
    }

    private int anyLetter() {
        int waiting = model.letters();
        if (random.nextInt(disorder) == 0) {
            return random.nextInt(waiting + 2) - (random.nextInt(10) == 0 ? 1 : 0);
        }
        return random.nextInt(3) == 0 ? waiting - 1 : 0;
    }
}
