/** The boundary cases of promises 6, 7, 26 and 27: unit, status, unitIs, unitKnown; ORDER and REPORT. */
public final class UnitEdgesTest {
    private static final int FREE = 0;
    private static final int MOVING = 1;
    private static final int AT_SCENE = 2;
    private static final int OUT = 3;
    private static final int ORDER = 5;
    private static final int REPORT = 6;
    private static final Refusals BUSY = new Refusals(Scenes::busy);
    /** In the busy scene these units are in the states 0 .. 3. */
    private static final int[] UNIT_IN_STATE = {5, 0, 2, 3};

    public static void main(String[] args) {
        unitBounds();
        noSuchUnit();
        unitThatIsNotFreeAndNotOut();
        unitDoesNotReport();
        statusBounds();
        statusFromEachState();
        theSameStateReportsAlone();
        noSuchStatus();
        whichOrderIsObeyed();
        orderInEachState();
        whichReportIsTaken();
        reportsAfterGoingDown();
        serialAfterManyCalls();
        unitIsBounds();
        noSuchUnitIs();
        unitKnownBounds();
        noSuchUnitKnown();
        countedAsNotFree();
        Due.end();
    }

    private static void unitBounds() {
        Due.on("promise 6: units 0 .. 5, junctions 0 .. 11, skills 0 .. 2");
        for (int u : Edges.inside(0, 5)) {
            for (int j : Edges.inside(0, 11)) {
                for (int skill : Edges.inside(0, 2)) {
                    TwinRooms x = new TwinRooms();
                    x.unit(u, 11 - j, 2 - skill);
                    Due.yes("unit", x.unit(u, j, skill));
                    Steps.unitIs(x, u, FREE, j, -1, 0, 0, skill);
                }
            }
        }
    }

    private static void noSuchUnit() {
        Due.on("promise 6: no such ones");
        for (int wrong : Edges.NO_UNIT) {
            BUSY.no("unit " + wrong, x -> x.unit(wrong, 1, 1));
        }
        for (int wrong : Edges.NO_JUNCTION) {
            BUSY.no("junction " + wrong, x -> x.unit(5, wrong, 1));
        }
        for (int wrong : Edges.NO_SKILL) {
            BUSY.no("skill " + wrong, x -> x.unit(5, 1, wrong));
        }
    }

    private static void unitThatIsNotFreeAndNotOut() {
        Due.on("promise 6: it is not FREE and not OUT");
        BUSY.no("MOVING", x -> x.unit(UNIT_IN_STATE[MOVING], 7, 1));
        BUSY.no("MOVING, as it is", x -> x.unit(UNIT_IN_STATE[MOVING], 2, 2));
        BUSY.no("AT SCENE", x -> x.unit(UNIT_IN_STATE[AT_SCENE], 7, 1));
        TwinRooms x = Scenes.busy();
        Due.yes("FREE", x.unit(UNIT_IN_STATE[FREE], 7, 1));
        Due.yes("OUT", x.unit(UNIT_IN_STATE[OUT], 7, 1));
        Due.yes("FREE, an ORDER waits", x.unit(1, 7, 1));
    }

    private static void unitDoesNotReport() {
        Due.on("promise 6: it doesn't report");
        TwinRooms x = Scenes.busy();
        int letters = x.letters();
        x.unit(4, 7, 2);
        x.unit(3, 8, 2);
        Due.is("letters", letters, x.letters());
        Due.is("serial", 2, x.unitIs(4, 4));
        Due.is("a room's junction", 5, x.unitKnown(0, 4, 1));
    }

    private static void statusBounds() {
        Due.on("promise 7: units 0 .. 5, states 0 .. 3");
        for (int u : Edges.inside(0, 5)) {
            TwinRooms x = new TwinRooms();
            Due.yes("OUT", x.status(u, OUT));
            Steps.letterIs(x, 0, REPORT, 3 + u, 0, u, 1);
            Steps.letterIs(x, 1, REPORT, 3 + u, 1, u, 1);
            Due.yes("FREE", x.status(u, FREE));
            Due.is("state", FREE, x.unitIs(u, 0));
        }
    }

    private static void statusFromEachState() {
        boolean[][] may = {
            {true, false, false, true},
            {false, true, true, false},
            {true, false, true, false},
            {true, false, false, true},
        };
        for (int from = 0; from < 4; from++) {
            int unit = UNIT_IN_STATE[from];
            for (int next = 0; next < 4; next++) {
                Due.on("promise 7: " + from + " to " + next);
                int to = next;
                if (may[from][next]) {
                    changes(unit, to);
                } else {
                    BUSY.no("status", x -> x.status(unit, to));
                }
            }
        }
    }

    private static void changes(int unit, int to) {
        TwinRooms x = Scenes.busy();
        int letters = x.letters();
        int serial = x.unitIs(unit, 4);
        Due.yes("status", x.status(unit, to));
        Due.is("state", to, x.unitIs(unit, 0));
        Due.is("serial", serial + 1, x.unitIs(unit, 4));
        Due.is("letters", letters + 2, x.letters());
        Steps.letterIs(x, letters, REPORT, 3 + unit, 0, unit, serial + 1);
        Steps.letterIs(x, letters + 1, REPORT, 3 + unit, 1, unit, serial + 1);
        x.deliver(letters);
        Steps.unitKnown(x, 0, unit, to, x.unitIs(unit, 1), x.unitIs(unit, 2), serial + 1, to == FREE ? 0 : 1);
    }

    private static void theSameStateReportsAlone() {
        Due.on("promise 7: the same state: it reports alone");
        for (int state = 0; state < 4; state++) {
            TwinRooms x = Scenes.busy();
            int unit = UNIT_IN_STATE[state];
            int junction = x.unitIs(unit, 1);
            int call = x.unitIs(unit, 2);
            int obeyed = x.unitIs(unit, 3);
            int serial = x.unitIs(unit, 4);
            int skill = x.unitIs(unit, 5);
            Due.yes("status", x.status(unit, state));
            Steps.unitIs(x, unit, state, junction, call, obeyed, serial + 1, skill);
        }
    }

    private static void noSuchStatus() {
        Due.on("promise 7: no such unit or state");
        for (int wrong : Edges.NO_UNIT) {
            BUSY.no("unit " + wrong, x -> x.status(wrong, FREE));
        }
        for (int wrong : Edges.NO_STATE) {
            for (int unit : UNIT_IN_STATE) {
                BUSY.no("unit " + unit + ", state " + wrong, x -> x.status(unit, wrong));
            }
        }
    }

    /**
     * Orders with the numbers 1, 2 and 3 wait for unit 0, in this order: of calls 0, 1 and 2, at
     * junctions 1, 2 and 3 in districts of these numbers.
     */
    private static TwinRooms threeOrders() {
        TwinRooms x = new TwinRooms();
        for (int d = 1; d <= 3; d++) {
            x.district(d, d);
            x.road(0, d, 5);
            Steps.charge(x, 0, d);
        }
        for (int d = 1; d <= 3; d++) {
            Scenes.report(x, 0, 0, 0);
            x.take(0, d, d);
            x.order(0, d - 1);
        }
        Steps.loseAllBut(x, ORDER);
        for (int d = 1; d <= 3; d++) {
            Steps.letterIs(x, d - 1, ORDER, 0, 3, d - 1, d);
        }
        return x;
    }

    /** The unit obeys the order with the number, and is FREE again; its letter is the only one gone. */
    private static void obeyAndComeBack(TwinRooms x, int number) {
        x.twin(number - 1);
        x.deliver(number - 1);
        Steps.unitIs(x, 0, MOVING, x.unitIs(0, 1), number - 1, number);
        x.status(0, AT_SCENE);
        Due.is("at the call's junction", number, x.unitIs(0, 1));
        x.status(0, FREE);
    }

    private static void whichOrderIsObeyed() {
        Due.on("terms: an ORDER is obeyed, if its number is not less than the highest obeyed");
        for (int first = 1; first <= 3; first++) {
            for (int second = 1; second <= 3; second++) {
                TwinRooms x = threeOrders();
                obeyAndComeBack(x, first);
                int serial = x.unitIs(0, 4);
                Steps.loseAllBut(x, ORDER);
                deliverOrder(x, second);
                if (second >= first) {
                    Steps.unitIs(x, 0, MOVING, first, second - 1, second, serial + 1);
                } else {
                    Steps.unitIs(x, 0, FREE, first, -1, first, serial + 1);
                }
                Due.is("anyhow it reports", REPORT, x.letter(x.letters() - 1, 0));
            }
        }
    }

    private static void deliverOrder(TwinRooms x, int number) {
        for (int i = 0; i < x.letters(); i++) {
            if (x.letter(i, 4) == number) {
                x.deliver(i);
                return;
            }
        }
    }

    private static void orderInEachState() {
        Due.on("terms: an ORDER is obeyed, if the unit is FREE");
        TwinRooms out = threeOrders();
        out.status(0, OUT);
        notObeyed(out, OUT, 0, -1, 0);
        TwinRooms moving = threeOrders();
        moving.twin(2);
        moving.deliver(2);
        notObeyed(moving, MOVING, 0, 2, 3);
        TwinRooms atScene = threeOrders();
        atScene.twin(2);
        atScene.deliver(2);
        atScene.status(0, AT_SCENE);
        notObeyed(atScene, AT_SCENE, 3, 2, 3);
        atScene.status(0, FREE);
        deliverOrder(atScene, 3);
        Steps.unitIs(atScene, 0, MOVING, 3, 2, 3);
    }

    /** The order with number 3 is not obeyed, and reported all the same. */
    private static void notObeyed(TwinRooms x, int state, int junction, int call, int obeyed) {
        x.twin(2);
        Steps.loseAllBut(x, ORDER);
        int letters = x.letters();
        int serial = x.unitIs(0, 4);
        deliverOrder(x, 3);
        Steps.unitIs(x, 0, state, junction, call, obeyed, serial + 1);
        Due.is("letters", letters + 1, x.letters());
        Steps.letterIs(x, letters - 1, REPORT, 3, 0, 0, serial + 1);
        Steps.letterIs(x, letters, REPORT, 3, 1, 0, serial + 1);
    }

    /** Reports 1, 2 and 3 to room 0 wait: the unit was at junctions 1, 2 and 3 then. */
    private static TwinRooms threeReports() {
        TwinRooms x = new TwinRooms();
        for (int serial = 1; serial <= 3; serial++) {
            x.unit(5, serial, 0);
            x.status(5, FREE);
            x.lose(x.letters() - 1);
        }
        return x;
    }

    private static void whichReportIsTaken() {
        Due.on("terms: a REPORT is taken, if its serial is higher than the last one taken");
        for (int first = 1; first <= 3; first++) {
            TwinRooms alone = threeReports();
            alone.deliver(first - 1);
            Steps.unitKnown(alone, 0, 5, FREE, first, -1, first, 0);
            for (int second = 1; second <= 3; second++) {
                TwinRooms x = threeReports();
                x.twin(first - 1);
                x.deliver(3);
                x.deliver(second - 1);
                int taken = Math.max(first, second);
                Steps.unitKnown(x, 0, 5, FREE, taken, -1, taken, 0);
                Steps.unitKnown(x, 1, 5, -1, -1, -1, -1);
            }
        }
    }

    private static void reportsAfterGoingDown() {
        Due.on("terms: a room forgets reports when it goes down");
        for (int serial = 1; serial <= 3; serial++) {
            TwinRooms x = threeReports();
            x.twin(2);
            x.deliver(3);
            x.crash(0);
            Steps.unitKnown(x, 0, 5, -1, -1, -1, -1, -1);
            x.mount(0);
            Steps.unitKnown(x, 0, 5, -1, -1, -1, -1, -1);
            x.deliver(serial - 1);
            Steps.unitKnown(x, 0, 5, FREE, serial, -1, serial, 0);
        }
    }

    private static void serialAfterManyCalls() {
        Due.on("what is said of 512 calls: the highest serial");
        TwinRooms x = new TwinRooms();
        for (int k = 0; k < 505; k++) {
            x.status(0, k % 2 == 0 ? OUT : FREE);
        }
        Due.is("letters", 48, x.letters());
        Due.is("the last that waits", 24, x.letter(47, 4));
        x.lose(46);
        x.lose(46);
        x.status(0, FREE);
        Due.is("serial", 506, x.unitIs(0, 4));
        Due.is("serial in the letter", 506, x.letter(47, 4));
    }

    private static void unitIsBounds() {
        Due.on("promise 26: units 0 .. 5, what 0 .. 5");
        BUSY.answers("unit 0, state", MOVING, x -> x.unitIs(0, 0));
        BUSY.answers("unit 0, skill", 2, x -> x.unitIs(0, 5));
        BUSY.answers("unit 5, state", FREE, x -> x.unitIs(5, 0));
        BUSY.answers("unit 5, skill", 0, x -> x.unitIs(5, 5));
        BUSY.none("unit 5, call", x -> x.unitIs(5, 2));
    }

    private static void noSuchUnitIs() {
        Due.on("promise 26: none such");
        for (int wrong : Edges.NO_UNIT) {
            for (int what = 0; what < 6; what++) {
                int w = what;
                BUSY.none("unit " + wrong + ", what " + w, x -> x.unitIs(wrong, w));
            }
        }
        for (int wrong : Edges.outside(0, 5)) {
            BUSY.none("what " + wrong, x -> x.unitIs(0, wrong));
        }
    }

    private static void unitKnownBounds() {
        Due.on("promise 27: rooms 0 and 1, units 0 .. 5, what 0 .. 4");
        for (int room : Edges.inside(0, 1)) {
            BUSY.answers("unit 0, state", MOVING, x -> x.unitKnown(room, 0, 0));
            BUSY.answers("unit 0, not FREE", 1, x -> x.unitKnown(room, 0, 4));
            for (int what = 0; what < 5; what++) {
                int w = what;
                BUSY.none("it knows nothing of unit 5, what " + w, x -> x.unitKnown(room, 5, w));
            }
        }
        TwinRooms x = threeReports();
        x.deliver(0);
        Steps.unitKnown(x, 0, 5, FREE, 1, -1, 1, 0);
    }

    private static void noSuchUnitKnown() {
        Due.on("promise 27: none such");
        for (int what = 0; what < 5; what++) {
            int w = what;
            for (int wrong : Edges.NO_ROOM) {
                BUSY.none("room " + wrong + ", what " + w, x -> x.unitKnown(wrong, 0, w));
            }
            for (int wrong : Edges.NO_UNIT) {
                BUSY.none("unit " + wrong + ", what " + w, x -> x.unitKnown(0, wrong, w));
            }
        }
        for (int wrong : Edges.outside(0, 4)) {
            BUSY.none("what " + wrong, x -> x.unitKnown(0, 0, wrong));
        }
    }

    private static void countedAsNotFree() {
        Due.on("promise 27: an ORDER was sent to it since the latest report");
        TwinRooms x = Steps.charged();
        x.status(0, FREE);
        x.twin(0);
        x.deliver(0);
        x.status(0, FREE);
        Due.is("no ORDER yet", 0, x.unitKnown(0, 0, 4));
        x.take(0, 0, 0);
        x.order(0, 0);
        Due.is("an ORDER", 1, x.unitKnown(0, 0, 4));
        x.deliver(1);
        Steps.unitKnown(x, 0, 0, FREE, 0, -1, 1, 1);
        x.deliver(1);
        Due.is("a report that was sent before it", 0, x.unitKnown(0, 0, 4));
        Due.is("serial", 2, x.unitKnown(0, 0, 3));
        x.status(0, OUT);
        x.deliver(x.letters() - 2);
        Due.is("OUT", 1, x.unitKnown(0, 0, 4));
        x.status(0, FREE);
        x.deliver(x.letters() - 2);
        Due.is("FREE", 0, x.unitKnown(0, 0, 4));
    }
}
