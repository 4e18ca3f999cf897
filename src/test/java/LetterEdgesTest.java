import java.util.ArrayList;
import java.util.List;
import java.util.function.Consumer;

/** The boundary cases of promises 16 to 23: store, letters, letter, deliver, lose, twin, crash, mount. */
public final class LetterEdgesTest {
    private static final int ASK = 0;
    private static final int GRANT = 1;
    private static final int COPY = 2;
    private static final int RECEIPT = 3;
    private static final int STORE = 4;
    private static final int ORDER = 5;
    private static final int REPORT = 6;
    private static final int CATCH_UP = 7;
    private static final Refusals BUSY = new Refusals(Scenes::busy);
    private static final Refusals FULL = new Refusals(Scenes::full);

    public static void main(String[] args) {
        everyKindWaits();
        storeRefused();
        howManyLetters();
        letterBounds();
        noSuchLetter();
        noSuchWhat();
        partsOfEachKind();
        deliverLoseAndTwinBounds();
        noLetterAtAll();
        fortyEightWait();
        oneLetterTooMany();
        twoLettersTooMany();
        fullWhileDelivering();
        almostFullWhileDelivering();
        losesNothingElse();
        deliveredToARoomThatIsDown();
        crashBounds();
        crashRefused();
        mountRefused();
        catchUpWithoutCalls();
        grantWithoutCalls();
        Due.end();
    }

    private static void everyKindWaits() {
        Due.on("the busy scene has letters of every kind, and room for more");
        TwinRooms x = Scenes.busy();
        int kinds = 0;
        for (int i = 0; i < x.letters(); i++) {
            kinds |= 1 << x.letter(i, 0);
        }
        Due.is("kinds", 255, kinds);
        Due.is("letters", 20, x.letters());
        Due.is("the full one", 48, Scenes.full().letters());
    }

    private static void storeRefused() {
        Due.on("promise 16: the room is down");
        Refusals down = new Refusals(() -> Scenes.down(0));
        for (int call = 0; call < 3; call++) {
            int c = call;
            down.state("store of call " + c, x -> x.store(0, c));
        }
        Due.on("promise 16: without being in charge, and of a CLOSED call");
        TwinRooms x = Scenes.busy();
        x.tick(1000);
        for (int call = 0; call < 3; call++) {
            int letters = x.letters();
            x.store(0, call);
            Steps.letterIs(x, letters, STORE, 0, 2, call, 1);
        }
    }

    private static void howManyLetters() {
        Due.on("promise 17: 0 .. 48");
        TwinRooms x = new TwinRooms();
        for (int n = 0; n <= 48; n++) {
            Due.is("letters", n, x.letters());
            x.ask(0, 0);
        }
        for (int n = 48; n >= 0; n--) {
            Due.is("letters", n, x.letters());
            Due.is("lose", n > 0 ? 1 : 0, x.lose(0) ? 1 : 0);
        }
        BUSY.answers("letters", 20, y -> y.letters());
        FULL.answers("letters", 48, y -> y.letters());
    }

    private static void letterBounds() {
        Due.on("promise 18: letters from 0, what 0 .. 4");
        BUSY.answers("the first", CATCH_UP, x -> x.letter(0, 0));
        BUSY.answers("the last", REPORT, x -> x.letter(19, 0));
        BUSY.answers("the last of its parts", 2, x -> x.letter(19, 4));
        FULL.answers("the last of 48", ASK, x -> x.letter(47, 0));
    }

    private static void noSuchLetter() {
        Due.on("promise 18: no such letter");
        for (int what = 0; what < 5; what++) {
            int w = what;
            for (int wrong : Edges.outside(0, 19)) {
                BUSY.none("letter(" + wrong + ", " + w + ")", x -> x.letter(wrong, w));
            }
            for (int wrong : Edges.outside(0, 47)) {
                FULL.none("letter(" + wrong + ", " + w + ")", x -> x.letter(wrong, w));
            }
        }
    }

    private static void noSuchWhat() {
        Due.on("promise 18: another what");
        for (int wrong : Edges.outside(0, 4)) {
            for (int i = 0; i < 20; i++) {
                int at = i;
                BUSY.none("letter(" + i + ", " + wrong + ")", x -> x.letter(at, wrong));
            }
        }
    }

    private static void partsOfEachKind() {
        Due.on("promise 18: NONE without a district, call or unit; 0 without a number");
        TwinRooms x = Scenes.busy();
        Steps.letterIs(x, 0, CATCH_UP, 1, 0, -1, 0);
        Steps.letterIs(x, 1, COPY, 0, 1, 0, 1);
        Steps.letterIs(x, 4, COPY, 1, 0, 8, 2);
        Steps.letterIs(x, 6, REPORT, 5, 0, 2, 2);
        Steps.letterIs(x, 9, ORDER, 0, 4, 1, 1);
        Steps.letterIs(x, 13, STORE, 1, 2, 8, 2);
        Steps.letterIs(x, 14, RECEIPT, 2, 0, 1, 1);
        Steps.letterIs(x, 15, GRANT, 2, 0, 0, 3);
        Steps.letterIs(x, 16, COPY, 2, 0, 1, 1);
        Steps.letterIs(x, 17, ASK, 1, 2, 2, 0);
        x.deliver(1);
        Steps.letterIs(x, 19, RECEIPT, 1, 0, 0, 1);
    }

    private static void deliverLoseAndTwinBounds() {
        Due.on("promises 19, 20 and 21: none such");
        for (int wrong : Edges.outside(0, 19)) {
            BUSY.no("deliver(" + wrong + ")", x -> x.deliver(wrong));
            BUSY.no("lose(" + wrong + ")", x -> x.lose(wrong));
            BUSY.no("twin(" + wrong + ")", x -> x.twin(wrong));
        }
        for (int wrong : Edges.outside(0, 47)) {
            FULL.no("deliver(" + wrong + ")", x -> x.deliver(wrong));
            FULL.no("lose(" + wrong + ")", x -> x.lose(wrong));
            FULL.no("twin(" + wrong + ")", x -> x.twin(wrong));
        }
        Due.on("promises 19, 20 and 21: the first and the last");
        for (int i : Edges.inside(0, 19)) {
            Due.yes("deliver", Scenes.busy().deliver(i));
            Due.yes("lose", Scenes.busy().lose(i));
            Due.yes("twin", Scenes.busy().twin(i));
        }
        for (int i : Edges.inside(0, 47)) {
            Due.yes("deliver", Scenes.full().deliver(i));
            Due.yes("lose", Scenes.full().lose(i));
        }
    }

    private static void noLetterAtAll() {
        Due.on("promises 18 to 21: no letter at all");
        Refusals empty = new Refusals(TwinRooms::new);
        for (int wrong : new int[] {0, -1, 1, Integer.MIN_VALUE, Integer.MAX_VALUE}) {
            empty.none("letter", x -> x.letter(wrong, 0));
            empty.no("deliver", x -> x.deliver(wrong));
            empty.no("lose", x -> x.lose(wrong));
            empty.no("twin", x -> x.twin(wrong));
        }
        TwinRooms x = new TwinRooms();
        x.ask(0, 0);
        Due.yes("lose", x.lose(0));
        Due.no("the only one is gone", x.lose(0));
    }

    private static void fortyEightWait() {
        Due.on("promise 21: 48 wait");
        for (int i = 0; i < 48; i++) {
            int at = i;
            FULL.no("twin(" + i + ")", x -> x.twin(at));
        }
        TwinRooms x = Scenes.full();
        x.lose(47);
        Due.yes("47 wait", x.twin(0));
        Steps.letterIs(x, 47, CATCH_UP, 1, 0, -1, 0);
        Due.no("48 wait", x.twin(0));
    }

    /** Some 300 calls: an object that had this done to it is not good for much more. */
    private static List<Integer> lettersOf(TwinRooms x) {
        List<Integer> parts = new ArrayList<>();
        for (int i = 0; i < x.letters(); i++) {
            for (int what = 0; what < 5; what++) {
                parts.add(x.letter(i, what));
            }
        }
        return parts;
    }

    /** As busy, with room for so many letters more; the last that wait are ASKs. */
    private static TwinRooms roomFor(int more) {
        TwinRooms x = Scenes.busy();
        while (x.letters() < 48 - more) {
            x.ask(0, 3);
        }
        return x;
    }

    private static void oneLetterTooMany() {
        sends("ask", x -> x.ask(1, 1), ASK);
        sends("take", x -> Due.is("take", 3, x.take(0, 11, 5)), COPY);
        sends("take, linked", x -> Due.is("take", 100, x.take(0, 1, 7)), COPY);
        sends("answer", x -> Due.is("answer", 5, x.answer(0, 1, true)), COPY);
        sends("close", x -> x.close(0, 1), COPY);
        sends("store", x -> x.store(0, 1), STORE);
        sends("order", x -> Due.is("order", 1, x.order(0, 1)), ORDER, COPY);
        sends("status", x -> Due.yes("status", x.status(5, 3)), REPORT, REPORT);
        sends("mount", LetterEdgesTest::mountAgain, CATCH_UP);
    }

    private static void mountAgain(TwinRooms x) {
        x.crash(0);
        Due.yes("mount", x.mount(0));
    }

    /** With 48 waiting, nothing more comes; with fewer, the first letters come. */
    private static void sends(String call, Consumer<TwinRooms> body, int... kinds) {
        for (int more = 0; more <= kinds.length; more++) {
            Due.on("terms: another letter is lost at once: " + call + ", room for " + more);
            List<Integer> before = lettersOf(ready(more));
            TwinRooms x = ready(more);
            body.accept(x);
            Due.is("letters", 48, x.letters());
            List<Integer> after = lettersOf(x);
            Due.yes("those that waited", before.equals(after.subList(0, before.size())));
            for (int k = 0; k < more; k++) {
                Due.is("kind", kinds[k], x.letter(48 - more + k, 0));
            }
        }
    }

    /** Unit 1 has reported since the ORDER that waits: it may have another one. */
    private static TwinRooms ready(int more) {
        TwinRooms x = Scenes.busy();
        Scenes.report(x, 1, 0, 2);
        while (x.letters() < 48 - more) {
            x.ask(0, 3);
        }
        return x;
    }

    private static void twoLettersTooMany() {
        Due.on("terms: lost letters change nothing of what was done");
        TwinRooms x = ready(0);
        x.order(0, 1);
        Steps.callIs(x, 0, 1, 0, 0, 0, 1, 1, 0, 1, 3, 0);
        Due.is("not FREE", 1, x.unitKnown(0, 1, 4));
        x.status(5, 3);
        Steps.unitIs(x, 5, 3, 0, -1, 0, 1, 0);
        x.close(0, 1);
        Due.is("CLOSED", 2, x.callKnown(0, 1, 3));
        x.crash(1);
        x.mount(1);
        x.ask(1, 1);
        Due.is("letters", 48, x.letters());
        x.lose(47);
        x.ask(1, 1);
        Steps.letterIs(x, 47, ASK, 1, 2, 1, 0);
    }

    /** The letter is delivered while 48 wait; it waits no more, so there is room for one. */
    private static void fullWhileDelivering() {
        delivering(0, CATCH_UP, COPY);
        delivering(0, COPY, RECEIPT);
        delivering(0, STORE, RECEIPT);
        delivering(0, ORDER, REPORT);
        delivering(0, ASK, GRANT);
        delivering(0, GRANT);
        delivering(0, RECEIPT);
        delivering(0, REPORT);
    }

    private static void almostFullWhileDelivering() {
        delivering(1, CATCH_UP, COPY, COPY);
        delivering(1, COPY, RECEIPT);
        delivering(1, STORE, RECEIPT);
        delivering(1, ORDER, REPORT, REPORT);
        delivering(1, ASK, GRANT, COPY);
        delivering(2, ORDER, REPORT, REPORT);
        delivering(2, CATCH_UP, COPY, COPY, COPY);
        delivering(3, CATCH_UP, COPY, COPY, COPY);
    }

    /** The first letter of a kind is delivered, with room for so many more, and letters come. */
    private static void delivering(int more, int kind, int... comes) {
        Due.on("terms: at most 48 letters: kind " + kind + " is delivered, room for " + more);
        TwinRooms x = roomFor(more);
        if (kind == ASK) {
            x.district(0, 2);
        }
        int i = 0;
        while (x.letter(i, 0) != kind) {
            i++;
        }
        List<Integer> due = lettersOf(roomFor(more));
        due.subList(5 * i, 5 * i + 5).clear();
        Due.yes("deliver", x.deliver(i));
        List<Integer> after = lettersOf(x);
        Due.is("letters", 47 - more + comes.length, x.letters());
        Due.yes("those that waited", due.equals(after.subList(0, due.size())));
        for (int k = 0; k < comes.length; k++) {
            Due.is("kind", comes[k], x.letter(47 - more + k, 0));
        }
    }

    private static void losesNothingElse() {
        Due.on("promise 20: letter i is lost, the others move up");
        for (int i = 0; i < 48; i++) {
            List<Integer> due = lettersOf(Scenes.full());
            due.subList(5 * i, 5 * i + 5).clear();
            TwinRooms x = Scenes.full();
            x.lose(i);
            Due.is("letters", 47, x.letters());
            Due.is("no last one", -1, x.letter(47, 0));
            Due.yes("the others", due.equals(lettersOf(x)));
        }
    }

    private static void deliveredToARoomThatIsDown() {
        Due.on("terms: delivered to a room that is down a letter is lost");
        for (int kind : new int[] {GRANT, COPY, RECEIPT, REPORT, CATCH_UP}) {
            TwinRooms x = Scenes.busy();
            x.crash(0);
            x.crash(1);
            int i = 0;
            while (x.letter(i, 0) != kind) {
                i++;
            }
            Due.yes("deliver", x.deliver(i));
            Due.is("letters", 19, x.letters());
            x.mount(0);
            x.mount(1);
            Due.is("no grant", 0, x.grantOf(0, 0));
            Due.is("no record", -1, x.callKnown(1, 0, 0));
            Due.is("not SURE", 0, x.callKnown(0, 1, 8));
            Due.is("no report", -1, x.unitKnown(0, 2, 0));
        }
        TwinRooms x = Scenes.busy();
        x.crash(0);
        x.crash(1);
        Due.yes("to the referee", x.deliver(13));
        Due.is("it is never down", 3, x.callKnown(2, 8, 0));
        Due.is("its RECEIPT waits", 20, x.letters());
        Due.yes("to a unit", x.deliver(9));
        Due.is("nor is a unit", 1, x.unitIs(1, 0));
    }

    private static void crashBounds() {
        Due.on("promise 22: a room goes down");
        for (int room : Edges.inside(0, 1)) {
            TwinRooms x = Scenes.busy();
            int known = x.callKnown(room, 8 * room, 7);
            Due.yes("crash", x.crash(room));
            Due.is("its grant", 0, x.grantOf(room, room));
            Due.is("the other one's", 2 - room, x.grantOf(1 - room, 1 - room));
            Due.is("its records stay", known, x.callKnown(room, 8 * room, 7));
            Due.is("it knows nothing of units", -1, x.unitKnown(room, 0, 0));
            Due.is("the other one does", 1, x.unitKnown(1 - room, 0, 0));
            Due.is("letters", 20, x.letters());
        }
    }

    private static void crashRefused() {
        Due.on("promise 22: it is down, or there is none such");
        for (int wrong : Edges.NO_ROOM) {
            BUSY.no("room " + wrong, x -> x.crash(wrong));
        }
        for (int room : Edges.inside(0, 1)) {
            new Refusals(() -> Scenes.down(room)).no("down", x -> x.crash(room));
        }
        new Refusals(LetterEdgesTest::bothDown).no("both are down", x -> x.crash(0));
    }

    private static TwinRooms bothDown() {
        TwinRooms x = Scenes.down(0);
        x.crash(1);
        return x;
    }

    private static void mountRefused() {
        Due.on("promise 23: it isn't down");
        for (int wrong : Edges.NO_ROOM) {
            BUSY.no("room " + wrong, x -> x.mount(wrong));
            new Refusals(LetterEdgesTest::bothDown).no("room " + wrong, x -> x.mount(wrong));
        }
        for (int room : Edges.inside(0, 1)) {
            BUSY.no("up", x -> x.mount(room));
            new Refusals(() -> Scenes.down(1 - room)).no("the other one is down", x -> x.mount(room));
            TwinRooms x = Scenes.down(room);
            Due.yes("mount", x.mount(room));
            Due.no("once more", x.mount(room));
            Due.is("one CATCH UP", 21, x.letters());
            Steps.letterIs(x, 20, CATCH_UP, room, 1 - room, -1, 0);
        }
    }

    private static void catchUpWithoutCalls() {
        Due.on("terms: CATCH UP of a room that knows no call");
        TwinRooms x = new TwinRooms();
        x.crash(1);
        x.mount(1);
        x.deliver(0);
        Due.is("letters", 0, x.letters());
        TwinRooms y = Scenes.busy();
        y.deliver(0);
        Due.is("of one that knows three", 22, y.letters());
        for (int call = 0; call < 3; call++) {
            Steps.letterIs(y, 19 + call, COPY, 0, 1, call, 1);
        }
    }

    private static void grantWithoutCalls() {
        Due.on("terms: a GRANT for a district without calls");
        TwinRooms x = Scenes.busy();
        x.deliver(17);
        Due.is("letters", 20, x.letters());
        Steps.letterIs(x, 19, GRANT, 2, 1, 2, 4);
        x.district(0, 3);
        x.ask(0, 3);
        x.deliver(20);
        Due.is("with one", 22, x.letters());
        Steps.letterIs(x, 20, GRANT, 2, 0, 3, 5);
        Steps.letterIs(x, 21, COPY, 2, 0, 1, 1);
    }
}
