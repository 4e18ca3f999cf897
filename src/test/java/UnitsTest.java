/** Promises 6, 7, 26 and 27: unit, status, unitIs, unitKnown; letters ORDER and REPORT. */
public final class UnitsTest {
    private static final int FREE = 0;
    private static final int MOVING = 1;
    private static final int AT_SCENE = 2;
    private static final int OUT = 3;

    public static void main(String[] args) {
        unit();
        unitAtWork();
        status();
        statusAtWork();
        wrongStatus();
        reportLetters();
        reportsTaken();
        reportsForgotten();
        obeying();
        notObeying();
        wrongUnitIs();
        wrongUnitKnown();
        Due.end();
    }

    private static void unit() {
        Due.on("unit");
        TwinRooms x = new TwinRooms();
        Due.yes("unit", x.unit(5, 11, 2));
        Steps.unitIs(x, 5, FREE, 11, -1, 0, 0, 2);
        Due.is("it doesn't report", 0, x.letters());
        x.status(5, OUT);
        Due.yes("unit that is OUT", x.unit(5, 3, 1));
        Steps.unitIs(x, 5, OUT, 3, -1, 0, 1, 1);
        Due.no("unit 6", x.unit(6, 0, 0));
        Due.no("junction 12", x.unit(5, 12, 0));
        Due.no("skill 3", x.unit(5, 0, 3));
        for (int wrong : Steps.WRONG) {
            Due.no("unit", x.unit(wrong, 0, 0));
            Due.no("junction", x.unit(5, wrong, 0));
            Due.no("skill", x.unit(5, 0, wrong));
        }
        Steps.unitIs(x, 5, OUT, 3, -1, 0, 1, 1);
    }

    /** Unit 1 (skill 1, junction 2) is ordered to call 0 at junction 4, 10 seconds away. */
    private static TwinRooms ordered() {
        TwinRooms x = Steps.charged();
        x.road(2, 4, 10);
        Steps.place(x, 1, 2, 1);
        x.take(0, 4, 0);
        x.order(0, 0);
        Steps.loseAllBut(x, 5);
        return x;
    }

    private static TwinRooms moving() {
        TwinRooms x = ordered();
        x.deliver(0);
        return x;
    }

    private static void unitAtWork() {
        Due.on("unit at work");
        TwinRooms x = moving();
        Due.no("MOVING", x.unit(1, 0, 0));
        x.status(1, AT_SCENE);
        Due.no("AT SCENE", x.unit(1, 0, 0));
        Steps.unitIs(x, 1, AT_SCENE, 4, 0, 1, 3, 1);
        x.status(1, FREE);
        Due.yes("FREE again", x.unit(1, 0, 0));
    }

    private static void status() {
        Due.on("status");
        TwinRooms x = new TwinRooms();
        Due.no("FREE to MOVING", x.status(0, MOVING));
        Due.no("FREE to AT SCENE", x.status(0, AT_SCENE));
        Due.is("nothing", 0, x.letters());
        Due.is("nothing", 0, x.unitIs(0, 4));
        Due.yes("FREE to FREE", x.status(0, FREE));
        Steps.unitIs(x, 0, FREE, 0, -1, 0, 1);
        Due.yes("FREE to OUT", x.status(0, OUT));
        Steps.unitIs(x, 0, OUT, 0, -1, 0, 2);
        Due.yes("OUT to OUT", x.status(0, OUT));
        Due.no("OUT to MOVING", x.status(0, MOVING));
        Due.no("OUT to AT SCENE", x.status(0, AT_SCENE));
        Steps.unitIs(x, 0, OUT, 0, -1, 0, 3);
        Due.yes("OUT to FREE", x.status(0, FREE));
        Steps.unitIs(x, 0, FREE, 0, -1, 0, 4);
        Due.is("two letters each", 8, x.letters());
    }

    private static void statusAtWork() {
        Due.on("status at work");
        TwinRooms x = moving();
        Steps.unitIs(x, 1, MOVING, 2, 0, 1, 2, 1);
        Due.no("MOVING to FREE", x.status(1, FREE));
        Due.no("MOVING to OUT", x.status(1, OUT));
        Steps.unitIs(x, 1, MOVING, 2, 0, 1, 2, 1);
        Due.yes("MOVING to MOVING", x.status(1, MOVING));
        Steps.unitIs(x, 1, MOVING, 2, 0, 1, 3, 1);
        Due.yes("MOVING to AT SCENE", x.status(1, AT_SCENE));
        Steps.unitIs(x, 1, AT_SCENE, 4, 0, 1, 4, 1);
        Due.no("AT SCENE to MOVING", x.status(1, MOVING));
        Due.no("AT SCENE to OUT", x.status(1, OUT));
        Due.yes("AT SCENE to AT SCENE", x.status(1, AT_SCENE));
        Steps.unitIs(x, 1, AT_SCENE, 4, 0, 1, 5, 1);
        Due.yes("AT SCENE to FREE", x.status(1, FREE));
        Steps.unitIs(x, 1, FREE, 4, -1, 1, 6, 1);
        Due.is("letters", 10, x.letters());
    }

    private static void wrongStatus() {
        Due.on("wrong status");
        TwinRooms x = new TwinRooms();
        Due.no("unit 6", x.status(6, FREE));
        Due.no("state 4", x.status(0, 4));
        for (int wrong : Steps.WRONG) {
            Due.no("unit", x.status(wrong, FREE));
            Due.no("state", x.status(0, wrong));
        }
        Due.is("nothing", 0, x.letters());
        Due.is("nothing", 0, x.unitIs(0, 4));
    }

    private static void reportLetters() {
        Due.on("report letters");
        TwinRooms x = new TwinRooms();
        x.status(5, FREE);
        x.status(5, OUT);
        Due.is("letters", 4, x.letters());
        Steps.letterIs(x, 0, 6, 8, 0, 5, 1, -1);
        Steps.letterIs(x, 1, 6, 8, 1, 5, 1, -1);
        Steps.letterIs(x, 2, 6, 8, 0, 5, 2, -1);
        Steps.letterIs(x, 3, 6, 8, 1, 5, 2, -1);
    }

    private static void reportsTaken() {
        Due.on("reports taken");
        TwinRooms x = new TwinRooms();
        x.unit(2, 7, 1);
        x.status(2, OUT);
        x.unit(2, 8, 1);
        x.status(2, FREE);
        x.twin(2);
        x.deliver(2);
        Steps.unitKnown(x, 0, 2, FREE, 8, -1, 2, 0, -1);
        Steps.unitKnown(x, 1, 2, -1, -1, -1, -1);
        x.unit(2, 9, 1);
        Due.is("what was reported, not what is", 8, x.unitKnown(0, 2, 1));
        x.deliver(0);
        Steps.unitKnown(x, 0, 2, FREE, 8, -1, 2, 0);
        x.deliver(0);
        Steps.unitKnown(x, 1, 2, OUT, 7, -1, 1, 1);
        x.deliver(0);
        Steps.unitKnown(x, 1, 2, FREE, 8, -1, 2, 0);
        x.deliver(0);
        Steps.unitKnown(x, 0, 2, FREE, 8, -1, 2, 0);
        Due.is("no letter comes of a report", 0, x.letters());
    }

    private static void reportsForgotten() {
        Due.on("reports forgotten");
        TwinRooms x = new TwinRooms();
        x.status(0, OUT);
        x.twin(0);
        x.status(0, FREE);
        x.deliver(3);
        x.crash(0);
        Steps.unitKnown(x, 0, 0, -1, -1, -1, -1, -1);
        x.deliver(0);
        Steps.unitKnown(x, 0, 0, -1, -1, -1, -1, -1);
        x.mount(0);
        Steps.unitKnown(x, 0, 0, -1, -1, -1, -1, -1);
        x.deliver(1);
        Steps.unitKnown(x, 0, 0, OUT, 0, -1, 1, 1);
    }

    private static void obeying() {
        Due.on("obeying");
        TwinRooms x = ordered();
        Steps.letterIs(x, 0, 5, 0, 4, 0, 1);
        Steps.unitKnown(x, 0, 1, FREE, 2, -1, 1, 1);
        Steps.unitKnown(x, 1, 1, FREE, 2, -1, 1, 0);
        x.twin(0);
        x.deliver(0);
        Steps.unitIs(x, 1, MOVING, 2, 0, 1, 2, 1);
        Due.is("letters", 3, x.letters());
        Steps.letterIs(x, 1, 6, 4, 0, 1, 2);
        Steps.letterIs(x, 2, 6, 4, 1, 1, 2);
        Due.is("not FREE before the report comes", 1, x.unitKnown(0, 1, 4));
        x.deliver(0);
        Steps.unitIs(x, 1, MOVING, 2, 0, 1, 3, 1);
        Due.is("a doubled order is reported too", 4, x.letters());
        x.deliver(0);
        Steps.unitKnown(x, 0, 1, MOVING, 2, 0, 2, 1);
        x.status(1, AT_SCENE);
        x.status(1, FREE);
        Steps.deliverNow(x);
        Steps.unitKnown(x, 0, 1, FREE, 4, -1, 5, 0);
        Steps.unitKnown(x, 1, 1, FREE, 4, -1, 5, 0);
    }

    private static void notObeying() {
        Due.on("not obeying");
        TwinRooms x = ordered();
        x.status(1, OUT);
        x.deliver(0);
        Steps.unitIs(x, 1, OUT, 2, -1, 0, 3, 1);
        Due.is("it reports", 4, x.letters());
        lowerNumber();
        sameNumber();
    }

    /** Room 1 has grant 2 for district 1, room 0 has grant 1 for district 0. */
    private static TwinRooms twoOrders() {
        TwinRooms x = Steps.charged();
        x.district(1, 1);
        Steps.charge(x, 1, 1);
        x.road(0, 1, 5);
        Steps.place(x, 3, 0, 0);
        x.take(0, 0, 0);
        x.take(1, 1, 0);
        x.order(0, 0);
        x.order(1, 8);
        Steps.loseAllBut(x, 5);
        return x;
    }

    private static void lowerNumber() {
        Due.on("a lower number");
        TwinRooms x = twoOrders();
        Steps.letterIs(x, 0, 5, 0, 6, 0, 1);
        Steps.letterIs(x, 1, 5, 1, 6, 8, 2);
        x.twin(0);
        x.deliver(1);
        Steps.unitIs(x, 3, MOVING, 0, 8, 2, 2);
        x.status(3, AT_SCENE);
        x.status(3, FREE);
        x.deliver(0);
        Steps.unitIs(x, 3, FREE, 1, -1, 2, 5);
    }

    private static void sameNumber() {
        Due.on("the same number, a higher one");
        TwinRooms x = twoOrders();
        x.twin(0);
        x.twin(1);
        x.deliver(0);
        Steps.unitIs(x, 3, MOVING, 0, 0, 1, 2);
        x.deliver(0);
        Steps.unitIs(x, 3, MOVING, 0, 0, 1, 3);
        x.status(3, AT_SCENE);
        x.status(3, FREE);
        x.deliver(0);
        Steps.unitIs(x, 3, MOVING, 0, 0, 1, 6);
        x.status(3, AT_SCENE);
        x.status(3, FREE);
        x.deliver(0);
        Steps.unitIs(x, 3, MOVING, 0, 8, 2, 9);
        x.status(3, AT_SCENE);
        Due.is("at the call's junction", 1, x.unitIs(3, 1));
    }

    private static void wrongUnitIs() {
        Due.on("wrong unitIs");
        TwinRooms x = new TwinRooms();
        Due.is("unit 6", -1, x.unitIs(6, 0));
        Due.is("what 6", -1, x.unitIs(0, 6));
        for (int wrong : Steps.WRONG) {
            Due.is("unit", -1, x.unitIs(wrong, 0));
            Due.is("what", -1, x.unitIs(0, wrong));
        }
    }

    private static void wrongUnitKnown() {
        Due.on("wrong unitKnown");
        TwinRooms x = new TwinRooms();
        Steps.place(x, 0, 0, 0);
        Due.is("room 2", -1, x.unitKnown(2, 0, 0));
        Due.is("unit 6", -1, x.unitKnown(0, 6, 0));
        Due.is("what 5", -1, x.unitKnown(0, 0, 5));
        for (int wrong : Steps.WRONG) {
            Due.is("room", -1, x.unitKnown(wrong, 0, 0));
            Due.is("room, what 4", -1, x.unitKnown(wrong, 0, 4));
            Due.is("unit", -1, x.unitKnown(0, wrong, 0));
            Due.is("unit, what 4", -1, x.unitKnown(0, wrong, 4));
            Due.is("what", -1, x.unitKnown(0, 0, wrong));
        }
    }
}
