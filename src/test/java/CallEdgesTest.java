import java.util.function.Supplier;

/** The boundary cases of promises 12, 13, 15 and 28: take, answer, close, callKnown; NEWER, SURE. */
public final class CallEdgesTest {
    private static final int COPY = 2;
    private static final int RECEIPT = 3;
    private static final int STORE = 4;
    private static final Refusals BUSY = new Refusals(Scenes::busy);
    private static final Refusals LAPSED = new Refusals(CallEdgesTest::lapsed);
    private static final Refusals DOWN = new Refusals(() -> Scenes.down(0));

    public static void main(String[] args) {
        takeBounds();
        noSuchTake();
        takeNotInCharge();
        takeEightCalls();
        anyHash();
        wayOfSixty();
        whichCallsAreLinked();
        linkedWithoutBeingInCharge();
        linkedByManyCalls();
        answerBounds();
        noSuchAnswer();
        answerRefused();
        answerOfANodeThatIsALeafNow();
        closeRefused();
        changesUnderAnotherGrant();
        whichRecordIsNewer();
        sameStampIsNotNewer();
        justThisStamp();
        callKnownBounds();
        noSuchCallKnown();
        Due.end();
    }

    /** As busy, but room 0 isn't in charge any more: just 2000 of its clock have gone. */
    private static TwinRooms lapsed() {
        TwinRooms x = Scenes.busy();
        x.tick(38);
        return x;
    }

    private static void takeBounds() {
        Due.on("promise 12: rooms 0 and 1, junctions 0 .. 11");
        for (int room : Edges.inside(0, 1)) {
            for (int junction : Edges.inside(0, 11)) {
                TwinRooms x = new TwinRooms();
                Steps.charge(x, room, 0);
                Due.is("take", 8 * room, x.take(room, junction, 0));
                Steps.callIs(x, room, 8 * room, junction, 0, 1, 0, -1, 0, 1, 1, 0);
                Steps.letterIs(x, 0, COPY, room, 1 - room, 8 * room, 1);
            }
        }
    }

    private static void noSuchTake() {
        Due.on("promise 12: no such room or junction");
        for (int wrong : Edges.NO_ROOM) {
            BUSY.argument("room " + wrong, x -> x.take(wrong, 0, 7));
        }
        for (int wrong : Edges.NO_JUNCTION) {
            BUSY.argument("junction " + wrong, x -> x.take(0, wrong, 7));
            LAPSED.argument("not in charge, junction " + wrong, x -> x.take(0, wrong, 7));
            DOWN.argument("down, junction " + wrong, x -> x.take(0, wrong, 7));
        }
    }

    private static void takeNotInCharge() {
        Due.on("promise 12: it isn't in charge");
        new Refusals(TwinRooms::new).state("never granted", x -> x.take(0, 0, 0));
        BUSY.state("another district", x -> x.take(0, 4, 7));
        BUSY.state("the other room's district", x -> x.take(0, 3, 9));
        BUSY.state("one that would be linked", x -> x.take(1, 1, 7));
        LAPSED.state("2000 since it asked", x -> x.take(0, 11, 7));
        LAPSED.state("2000 since it asked, one that would be linked", x -> x.take(0, 1, 7));
        DOWN.state("down", x -> x.take(0, 11, 7));
        TwinRooms x = Scenes.busy();
        x.tick(37);
        Due.is("1950 since it asked", 3, x.take(0, 11, 7));
    }

    private static TwinRooms taken(int room, int calls) {
        TwinRooms x = new TwinRooms();
        Steps.charge(x, room, 0);
        for (int k = 0; k < calls; k++) {
            Due.is("take", 8 * room + k, x.take(room, k, 100 + k));
        }
        return x;
    }

    private static void takeEightCalls() {
        Due.on("promise 12: it has taken 8 calls");
        for (int room : Edges.inside(0, 1)) {
            TwinRooms x = taken(room, 7);
            Due.is("one is linked, after 7", 100 + 8 * room + 6, x.take(room, 6, 106));
            Due.is("the eighth", 8 * room + 7, x.take(room, 7, 107));
            Refusals eight = new Refusals(() -> taken(room, 8));
            eight.state("a ninth", y -> y.take(room, 8, 108));
            eight.state("a ninth at the same junction", y -> y.take(room, 7, 1));
            eight.state("one that would be linked", y -> y.take(room, 7, 107));
            eight.argument("no such junction", y -> y.take(room, 12, 107));
            Refusals closed = new Refusals(() -> closedAll(room));
            closed.state("all are CLOSED", y -> y.take(room, 0, 100));
        }
        TwinRooms x = taken(0, 8);
        x.district(11, 1);
        Steps.charge(x, 1, 1);
        Due.is("the other room's are others", 8, x.take(1, 11, 0));
    }

    private static TwinRooms closedAll(int room) {
        TwinRooms x = taken(room, 8);
        for (int k = 0; k < 8; k++) {
            x.close(room, 8 * room + k);
        }
        return x;
    }

    private static void anyHash() {
        Due.on("promise 12: any hash");
        int[] hashes = {Integer.MIN_VALUE, Integer.MAX_VALUE, 0, -1, 1};
        TwinRooms x = Steps.charged();
        for (int k = 0; k < hashes.length; k++) {
            Due.is("a new one", k, x.take(0, 0, hashes[k]));
        }
        for (int k = 0; k < hashes.length; k++) {
            Due.is("the same", 100 + k, x.take(0, 0, hashes[k]));
        }
    }

    private static void wayOfSixty() {
        Due.on("terms: a WAY of at most 60");
        for (int seconds = 59; seconds <= 61; seconds++) {
            int same = seconds <= 60 ? 100 : 1;
            TwinRooms x = Steps.charged();
            x.road(1, 0, seconds);
            x.take(0, 1, 7);
            Due.is("a road of " + seconds, same, x.take(0, 0, 7));
            TwinRooms y = Steps.charged();
            y.road(1, 2, 30);
            y.road(2, 0, seconds - 30);
            y.road(1, 0, 999);
            y.take(0, 1, 7);
            Due.is("two roads of " + seconds, same, y.take(0, 0, 7));
            TwinRooms z = Steps.charged();
            z.road(0, 1, seconds);
            z.take(0, 1, 7);
            Due.is("the way back alone", 1, z.take(0, 0, 7));
        }
        TwinRooms x = Steps.charged();
        x.take(0, 1, 7);
        Due.is("no way", 1, x.take(0, 0, 7));
        Due.is("0 to itself", 100, x.take(0, 1, 7));
    }

    private static void whichCallsAreLinked() {
        Due.on("terms: known, not CLOSED, taken with that hash, the least number");
        TwinRooms x = Scenes.busy();
        Due.is("ORDERED", 100, x.take(0, 1, 7));
        Due.is("ORDERED, without a grade", 101, x.take(0, 0, 8));
        Due.is("CLOSED", 3, x.take(0, 0, 10));
        Due.is("the one that isn't CLOSED", 103, x.take(0, 0, 10));
        Due.is("another hash", 4, x.take(0, 0, 11));
        x.district(3, 0);
        Due.is("the other room's, which it doesn't know", 5, x.take(0, 3, 9));
        x.deliver(4);
        Due.is("its own has the least number", 105, x.take(0, 3, 9));
        x.close(0, 5);
        Due.is("the other room's, which it knows", 108, x.take(0, 3, 9));
        Due.is("linked", 1, x.callKnown(0, 8, 5));
    }

    private static void linkedWithoutBeingInCharge() {
        Due.on("terms: not in charge of its district: nothing changes");
        Refusals apart = new Refusals(CallEdgesTest::callInAnotherDistrict);
        apart.answers("take", 100, x -> x.take(0, 0, 7));
        TwinRooms x = callInAnotherDistrict();
        x.tick(39);
        Steps.charge(x, 0, 2);
        Due.is("in charge of its district", 100, x.take(0, 0, 7));
        Due.is("linked", 1, x.callKnown(0, 0, 5));
    }

    private static void linkedByManyCalls() {
        Due.on("what is said of 512 calls: the most that are linked");
        TwinRooms x = Steps.charged();
        x.take(0, 0, 7);
        for (int k = 0; k < 490; k++) {
            x.take(0, 0, 7);
        }
        Steps.callIs(x, 0, 0, 0, 0, 1, 0, -1, 490, 1, 491, 0);
    }

    private static TwinRooms callInAnotherDistrict() {
        TwinRooms x = Steps.charged();
        x.road(1, 0, 60);
        x.take(0, 1, 7);
        x.district(1, 2);
        return x;
    }

    /** Room 0, or 1, has taken its last call, without a grade. */
    private static TwinRooms lastCall(int room) {
        TwinRooms x = new TwinRooms();
        x.card(0, 15, 14, 0);
        x.card(15, 0, 0, 5);
        Steps.charge(x, room, 0);
        for (int k = 0; k < 8; k++) {
            x.take(room, k, k);
        }
        return x;
    }

    private static void answerBounds() {
        Due.on("promises 13 to 16: calls 0 .. 15");
        for (int room : Edges.inside(0, 1)) {
            TwinRooms x = lastCall(room);
            for (int call : Edges.inside(8 * room, 8 * room + 7)) {
                Due.is("yes", 5, x.answer(room, call, true));
                Due.is("node", 15, x.callKnown(room, call, 1));
                Due.is("order", -1, x.order(room, call));
                x.close(room, call);
                Due.is("state", 2, x.callKnown(room, call, 3));
                x.store(room, call);
                Due.is("STORE", STORE, x.letter(x.letters() - 1, 0));
            }
            Due.is("no", 1, x.answer(room, 8 * room + 1, false));
            Due.is("node", 14, x.callKnown(room, 8 * room + 1, 1));
        }
    }

    private static void noSuchAnswer() {
        Due.on("promises 13 to 16: no such room, or it doesn't know this call");
        for (int wrong : Edges.NO_ROOM) {
            unknown(BUSY, "room " + wrong, wrong, 1);
        }
        for (int wrong : Edges.NO_CALL) {
            unknown(BUSY, "call " + wrong, 0, wrong);
            unknown(LAPSED, "not in charge, call " + wrong, 0, wrong);
            unknown(DOWN, "down, call " + wrong, 0, wrong);
        }
        unknown(BUSY, "not taken yet", 0, 3);
        unknown(BUSY, "not taken yet", 1, 9);
        unknown(BUSY, "known to the other room alone", 0, 8);
        unknown(BUSY, "known to the other room and to the referee", 1, 1);
    }

    private static void unknown(Refusals scene, String why, int room, int call) {
        scene.argument("answer: " + why, x -> x.answer(room, call, true));
        scene.argument("order: " + why, x -> x.order(room, call));
        scene.argument("close: " + why, x -> x.close(room, call));
        scene.argument("store: " + why, x -> x.store(room, call));
    }

    private static void answerRefused() {
        Due.on("promise 13: not in charge, CLOSED, or it has a grade");
        LAPSED.state("2000 since it asked", x -> x.answer(0, 1, true));
        DOWN.state("down", x -> x.answer(0, 1, true));
        BUSY.state("CLOSED, without a grade", x -> x.answer(0, 2, true));
        BUSY.state("it has a grade: yes", x -> x.answer(0, 0, true));
        BUSY.state("it has a grade: no", x -> x.answer(0, 0, false));
        for (int grade : Edges.inside(1, 5)) {
            Refusals graded = new Refusals(() -> graded(grade));
            graded.state("it has grade " + grade, x -> x.answer(0, 0, true));
        }
        Refusals moved = new Refusals(CallEdgesTest::movedAway);
        moved.state("its junction's district is another one now", x -> x.answer(0, 1, true));
        Refusals copied = new Refusals(CallEdgesTest::copied);
        copied.state("it knows the other room's call", x -> x.answer(0, 8, true));
        TwinRooms x = Scenes.busy();
        x.tick(37);
        Due.is("1950 since it asked", 5, x.answer(0, 1, true));
    }

    /** Call 0 has this grade, though its node is a question now. */
    private static TwinRooms graded(int grade) {
        TwinRooms x = Steps.charged();
        x.card(0, 0, 0, grade);
        x.take(0, 0, 0);
        x.card(0, 1, 1, 0);
        return x;
    }

    /** As busy, but calls 1 and 2 lie in a district that no room is in charge of. */
    private static TwinRooms movedAway() {
        TwinRooms x = Scenes.busy();
        x.district(0, 3);
        return x;
    }

    /** As busy, but room 0 knows call 8 by its COPY. */
    private static TwinRooms copied() {
        TwinRooms x = Scenes.busy();
        x.deliver(4);
        return x;
    }

    private static void answerOfANodeThatIsALeafNow() {
        Due.on("terms: of a call without grade whose node is a leaf now, any answer takes its grade");
        for (boolean yes : new boolean[] {true, false}) {
            for (int grade : Edges.inside(1, 5)) {
                TwinRooms x = Scenes.busy();
                x.card(0, 9, 9, grade);
                int letters = x.letters();
                Due.is("grade", grade, x.answer(0, 1, yes));
                Steps.callIs(x, 0, 1, 0, 0, grade, 1, 1, 0, 1, 3, 0);
                Due.is("a CHANGE", letters + 1, x.letters());
            }
        }
    }

    private static void closeRefused() {
        Due.on("promise 15: not in charge, or CLOSED");
        LAPSED.state("2000 since it asked", x -> x.close(0, 1));
        DOWN.state("down", x -> x.close(0, 1));
        BUSY.state("CLOSED", x -> x.close(0, 2));
        new Refusals(CallEdgesTest::movedAway).state("another district", x -> x.close(0, 1));
        new Refusals(CallEdgesTest::copied).state("the other room's", x -> x.close(0, 8));
        TwinRooms x = Scenes.busy();
        x.tick(37);
        x.close(0, 0);
        Due.is("1950 since it asked", 2, x.callKnown(0, 0, 3));
    }

    private static void changesUnderAnotherGrant() {
        Due.on("terms: one change more; 1, if the grant number is another one");
        TwinRooms x = Scenes.busy();
        Due.is("call 1 is SURE", 1, x.callKnown(0, 1, 8));
        x.take(0, 0, 8);
        Steps.callIs(x, 0, 1, 0, 0, 0, 1, 1, 1, 1, 3, 0);
        Due.is("changes", 3, x.callKnown(0, 0, 7));
        x.take(0, 1, 7);
        Steps.callIs(x, 0, 0, 1, 1, 5, 1, 0, 1, 1, 4, 0);
        x.deliver(15);
        Due.is("another grant", 3, x.grantOf(0, 0));
        Due.is("the stamp stays", 1, x.callKnown(0, 0, 6));
        x.take(0, 1, 7);
        Steps.callIs(x, 0, 0, 1, 1, 5, 1, 0, 2, 3, 1, 0);
        x.take(0, 1, 7);
        Steps.callIs(x, 0, 0, 1, 1, 5, 1, 0, 3, 3, 2, 0);
    }

    // The stamps that call 0 gets one after another: the number is that of its junction's district,
    // which goes down to 1 and up to 2 again. So many calls are linked as changes came before.
    private static final int[] NUMBERS = {2, 2, 2, 1, 1, 1, 1, 2};
    private static final int[] CHANGES = {1, 2, 3, 1, 2, 3, 4, 1};

    /** Letters of one kind, to room 1 or the referee, with the record as it was after each change. */
    private static TwinRooms stamps(int kind) {
        TwinRooms x = Steps.charged();
        Steps.charge(x, 0, 1);
        for (int k = 0; k < NUMBERS.length; k++) {
            x.district(5, NUMBERS[k] - 1);
            Due.is("take", k == 0 ? 0 : 100, x.take(0, 5, 7));
            if (kind == STORE) {
                x.store(0, 0);
            }
        }
        Steps.loseAllBut(x, kind);
        for (int k = 0; k < NUMBERS.length; k++) {
            Steps.letterIs(x, k, kind, 0, kind == STORE ? 2 : 1, 0, NUMBERS[k]);
        }
        return x;
    }

    private static void whichRecordIsNewer() {
        newer("terms: a COPY becomes a room's record, if it is newer", 1, () -> stamps(COPY));
        newer("terms: a STORE is kept by the referee, if it is newer", 2, () -> stamps(STORE));
    }

    private static void newer(String heading, int who, Supplier<TwinRooms> letters) {
        for (int first = 0; first < NUMBERS.length; first++) {
            for (int second = 0; second < NUMBERS.length; second++) {
                Due.on(heading + " " + first + " " + second);
                TwinRooms x = letters.get();
                x.twin(first);
                x.deliver(NUMBERS.length);
                Steps.callIs(x, who, 0, 5, 0, 1, 0, -1, first, NUMBERS[first], CHANGES[first], 0);
                x.deliver(second);
                boolean kept = NUMBERS[second] > NUMBERS[first]
                        || NUMBERS[second] == NUMBERS[first] && CHANGES[second] > CHANGES[first];
                int is = kept ? second : first;
                Steps.callIs(x, who, 0, 5, 0, 1, 0, -1, is, NUMBERS[is], CHANGES[is], 0);
                Due.is("letters", NUMBERS.length + 1, x.letters());
                Steps.letterIs(x, NUMBERS.length - 1, RECEIPT, who, 0, 0, NUMBERS[first]);
                Steps.letterIs(x, NUMBERS.length, RECEIPT, who, 0, 0, NUMBERS[second]);
            }
        }
    }

    private static void sameStampIsNotNewer() {
        Due.on("terms: a record with the same stamp isn't newer, though it is another one");
        TwinRooms x = stamps(COPY);
        Due.is("room 0's", 7, x.callKnown(0, 0, 5));
        x.deliver(0);
        x.deliver(6);
        Steps.callIs(x, 1, 0, 5, 0, 1, 0, -1, 0, 2, 1, 0);
    }

    private static void justThisStamp() {
        Due.on("terms: SURE by a RECEIPT with just this stamp");
        for (int kind : new int[] {COPY, STORE}) {
            for (int k = 0; k < NUMBERS.length; k++) {
                TwinRooms x = stamps(kind);
                x.deliver(k);
                Due.is("not before the RECEIPT comes", 0, x.callKnown(0, 0, 8));
                x.deliver(NUMBERS.length - 1);
                boolean just = NUMBERS[k] == 2 && CHANGES[k] == 1;
                Due.is("the RECEIPT of record " + k, just ? 1 : 0, x.callKnown(0, 0, 8));
            }
        }
    }

    private static void callKnownBounds() {
        Due.on("promise 28: who 0 .. 2, calls 0 .. 15, what 0 .. 8");
        TwinRooms x = new TwinRooms();
        Steps.charge(x, 0, 0);
        x.district(1, 1);
        Steps.charge(x, 1, 1);
        for (int k = 0; k < 8; k++) {
            x.take(0, 0, k);
            x.take(1, 1, k);
        }
        Steps.deliverNow(x);
        Steps.loseAll(x);
        for (int call : Edges.inside(0, 15)) {
            x.store(call / 8, call);
            x.deliver(0);
            Steps.loseAll(x);
            for (int who : Edges.inside(0, 2)) {
                int owner = call / 8;
                Steps.callIs(x, who, call, owner, 0, 1, 0, -1, 0, owner + 1, 1, 0);
            }
        }
    }

    private static void noSuchCallKnown() {
        Due.on("promise 28: it doesn't know it, or there is none such");
        for (int wrong : Edges.outside(0, 2)) {
            BUSY.none("who " + wrong, x -> x.callKnown(wrong, 1, 0));
        }
        for (int who = 0; who < 3; who++) {
            int w = who;
            for (int wrong : Edges.NO_CALL) {
                BUSY.none("call " + wrong, x -> x.callKnown(w, wrong, 0));
                BUSY.none("call " + wrong + ", SURE", x -> x.callKnown(w, wrong, 8));
            }
            for (int wrong : Edges.outside(0, 8)) {
                BUSY.none("what " + wrong, x -> x.callKnown(w, w == 1 ? 8 : 1, wrong));
            }
            for (int what = 0; what < 9; what++) {
                int part = what;
                BUSY.none("not known, what " + part, x -> x.callKnown(w, 15, part));
            }
        }
    }
}
