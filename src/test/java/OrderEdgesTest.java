/** The boundary cases of promises 14 and 25: order, nearest. */
public final class OrderEdgesTest {
    private static final int ORDER = 5;
    private static final int COPY = 2;
    private static final Refusals BUSY = new Refusals(Scenes::busy);

    public static void main(String[] args) {
        orderNotInCharge();
        orderOfAClosedCall();
        orderWithAUnitOnIt();
        orderWithoutAUnit();
        gradesAndSkills();
        leastWayThenLeastNumber();
        wayFromTheUnitToTheCall();
        unitsThatTheRoomDoesNotKnow();
        orderSentCountsAsNotFree();
        nearestBounds();
        noSuchNearest();
        nearestSkills();
        nearestWithoutOne();
        Due.end();
    }

    private static TwinRooms later(int seconds) {
        TwinRooms x = Scenes.busy();
        x.unit(5, 0, 2);
        x.status(5, 0);
        x.deliver(x.letters() - 2);
        x.tick(seconds);
        return x;
    }

    private static void orderNotInCharge() {
        Due.on("promise 14: it isn't in charge");
        Refusals lapsed = new Refusals(() -> later(38));
        lapsed.state("2000 since it asked", x -> x.order(0, 1));
        Due.is("1950 since it asked", 5, later(37).order(0, 1));
        new Refusals(() -> Scenes.down(0)).state("down", x -> x.order(0, 1));
        new Refusals(OrderEdgesTest::movedAway).state("another district", x -> x.order(0, 1));
        new Refusals(OrderEdgesTest::copied).state("the other room's", x -> x.order(0, 8));
    }

    private static TwinRooms movedAway() {
        TwinRooms x = later(0);
        x.district(0, 3);
        return x;
    }

    private static TwinRooms copied() {
        TwinRooms x = later(0);
        x.deliver(4);
        return x;
    }

    private static void orderOfAClosedCall() {
        Due.on("promise 14: the call is CLOSED");
        new Refusals(() -> later(0)).state("order", x -> x.order(0, 2));
    }

    private static void orderWithAUnitOnIt() {
        Due.on("promise 14: a unit is on it");
        new Refusals(() -> later(0)).state("MOVING", x -> x.order(0, 0));
        BUSY.state("AT SCENE", x -> x.order(1, 8));
        TwinRooms x = later(0);
        x.status(0, 2);
        x.status(0, 0);
        int last = x.letters() - 1;
        Due.state("FREE, but no room knows", () -> x.order(0, 0));
        x.deliver(last - 3);
        Due.state("AT SCENE, as room 0 knows", () -> x.order(0, 0));
        x.deliver(last - 2);
        Due.is("FREE, as room 0 knows, and there", 0, x.order(0, 0));
    }

    private static void orderWithoutAUnit() {
        Due.on("promise 14: NONE without one: nothing");
        BUSY.none("none is FREE, fits and has a way", x -> x.order(0, 1));
        new Refusals(OrderEdgesTest::noReports).none("the room knows of none", x -> x.order(0, 0));
        new Refusals(OrderEdgesTest::allOut).none("all are OUT", x -> x.order(0, 0));
    }

    private static TwinRooms noReports() {
        TwinRooms x = Steps.charged();
        x.take(0, 0, 0);
        return x;
    }

    private static TwinRooms allOut() {
        TwinRooms x = noReports();
        for (int u = 0; u < 6; u++) {
            x.status(u, 3);
        }
        Steps.deliverNow(x);
        Steps.loseAll(x);
        return x;
    }

    private static void gradesAndSkills() {
        Due.on("terms: a unit fits if its skill is at least (grade - 1) / 2, without a grade as 5");
        int[] needed = {2, 0, 0, 1, 1, 2};
        for (int grade = 0; grade <= 5; grade++) {
            for (int skill = 0; skill <= 2; skill++) {
                TwinRooms x = Steps.charged();
                x.card(0, 1, 1, grade);
                Steps.place(x, 3, 0, skill);
                x.take(0, 0, 0);
                int want = skill >= needed[grade] ? 3 : -1;
                Due.is("grade " + grade + ", skill " + skill, want, x.order(0, 0));
            }
        }
    }

    private static void leastWayThenLeastNumber() {
        Due.on("terms: the least WAY, of these the least number");
        for (int seconds = 9; seconds <= 11; seconds++) {
            TwinRooms x = Steps.charged();
            x.road(1, 0, 10);
            x.road(2, 0, seconds);
            Steps.place(x, 0, 1, 0);
            Steps.place(x, 5, 2, 0);
            x.take(0, 0, 0);
            Due.is("10 and " + seconds, seconds < 10 ? 5 : 0, x.order(0, 0));
        }
        TwinRooms x = Steps.charged();
        x.road(1, 0, 1);
        Steps.place(x, 0, 1, 0);
        Steps.place(x, 5, 0, 0);
        x.take(0, 0, 0);
        Due.is("0 seconds at the same junction", 5, x.order(0, 0));
    }

    private static void wayFromTheUnitToTheCall() {
        Due.on("terms: a WAY from their junction to the call's");
        TwinRooms x = Steps.charged();
        x.road(0, 1, 5);
        Steps.place(x, 0, 1, 0);
        x.take(0, 0, 0);
        Due.is("the way back alone", -1, x.order(0, 0));
        for (int j = 1; j < 11; j++) {
            x.road(j, j + 1, 999);
        }
        x.road(11, 0, 999);
        Due.is("the longest way", 0, x.order(0, 0));
    }

    private static void unitsThatTheRoomDoesNotKnow() {
        Due.on("terms: as the room knows");
        TwinRooms x = Steps.charged();
        x.take(0, 0, 0);
        x.status(0, 0);
        Due.is("its report has not come", -1, x.order(0, 0));
        x.deliver(2);
        Due.is("it came to the other room", -1, x.order(0, 0));
        x.deliver(1);
        x.status(0, 3);
        Due.is("it is OUT, but the room does not know", 0, x.order(0, 0));
    }

    private static void orderSentCountsAsNotFree() {
        Due.on("terms: the room counts it as not FREE until a report comes");
        TwinRooms x = noReports();
        x.status(5, 0);
        x.deliver(1);
        x.deliver(1);
        x.lose(0);
        Due.is("order", 5, x.order(0, 0));
        Due.is("letters", 2, x.letters());
        Steps.letterIs(x, 0, ORDER, 0, 8, 0, 1);
        Steps.letterIs(x, 1, COPY, 0, 1, 0, 1);
        Due.is("once more", -1, x.order(0, 0));
        Due.is("letters", 2, x.letters());
        Due.is("nearest", -1, x.nearest(0, 0, 0, 0));
        Due.is("the other room's nearest", 5, x.nearest(1, 0, 0, 0));
        x.status(5, 0);
        x.deliver(2);
        Due.is("nearest after a report", 5, x.nearest(0, 0, 0, 0));
        Due.is("order after a report", 5, x.order(0, 0));
    }

    /** Units 0 .. 5 are FREE at junction 0, with skills 0, 0, 1, 1, 2, 2; both rooms know of all. */
    private static TwinRooms sixFree() {
        TwinRooms x = new TwinRooms();
        for (int u = 0; u < 6; u++) {
            Steps.place(x, u, 0, u / 2);
        }
        x.road(0, 11, 9);
        return x;
    }

    private static final Refusals SIX = new Refusals(OrderEdgesTest::sixFree);

    private static void nearestBounds() {
        Due.on("promise 25: rooms 0 and 1, junctions 0 .. 11, the i-th from 0");
        for (int room : Edges.inside(0, 1)) {
            for (int junction : Edges.inside(0, 11)) {
                for (int i = 0; i < 6; i++) {
                    int at = i;
                    SIX.answers("i " + i, i, x -> x.nearest(room, 0, junction, at));
                }
                SIX.none("there is no i 6", x -> x.nearest(room, 0, junction, 6));
                SIX.none("there is no i -1", x -> x.nearest(room, 0, junction, -1));
            }
        }
    }

    private static void noSuchNearest() {
        Due.on("promise 25: none such");
        for (int wrong : Edges.NO_ROOM) {
            SIX.none("room " + wrong, x -> x.nearest(wrong, 0, 0, 0));
        }
        for (int wrong : Edges.NO_JUNCTION) {
            SIX.none("junction " + wrong, x -> x.nearest(0, 0, wrong, 0));
        }
        for (int wrong : Edges.outside(0, 5)) {
            SIX.none("i " + wrong, x -> x.nearest(0, 0, 0, wrong));
        }
    }

    private static void nearestSkills() {
        Due.on("promise 25: at least a skill");
        for (int skill = 0; skill <= 2; skill++) {
            int s = skill;
            for (int i = 0; i < 6 - 2 * skill; i++) {
                int at = i;
                SIX.answers("skill " + s + ", i " + i, 2 * skill + i, x -> x.nearest(0, s, 0, at));
            }
            SIX.none("skill " + s + ", no more", x -> x.nearest(0, s, 0, 6 - 2 * s));
        }
        for (int skill : new int[] {3, Integer.MAX_VALUE}) {
            SIX.none("no unit has skill " + skill, x -> x.nearest(0, skill, 0, 0));
        }
        for (int skill : new int[] {-1, Integer.MIN_VALUE}) {
            SIX.answers("every unit has at least " + skill, 5, x -> x.nearest(0, skill, 0, 5));
        }
    }

    private static void nearestWithoutOne() {
        Due.on("promise 25: NONE");
        new Refusals(TwinRooms::new).none("no reports", x -> x.nearest(0, 0, 0, 0));
        SIX.none("no way", x -> x.nearest(0, 0, 10, 0));
        new Refusals(OrderEdgesTest::allOut).none("all are OUT", x -> x.nearest(0, 0, 0, 0));
        new Refusals(OrderEdgesTest::forgotten).none("forgotten", x -> x.nearest(0, 0, 0, 0));
        BUSY.answers("unit 4 alone is FREE and has a way", 4, x -> x.nearest(0, 0, 5, 0));
        BUSY.none("but not skill 2", x -> x.nearest(0, 2, 5, 0));
        BUSY.none("unit 1 has an ORDER of room 0", x -> x.nearest(0, 0, 0, 0));
        BUSY.answers("which room 1 does not know", 1, x -> x.nearest(1, 0, 0, 0));
    }

    private static TwinRooms forgotten() {
        TwinRooms x = sixFree();
        x.crash(0);
        return x;
    }
}
