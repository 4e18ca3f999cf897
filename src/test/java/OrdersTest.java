/** Promises 14 and 25: order, nearest. */
public final class OrdersTest {

    public static void main(String[] args) {
        order();
        whichUnit();
        fitting();
        asTheRoomKnows();
        withoutAUnit();
        ordersAgain();
        unitOnTheCall();
        fullPost();
        wrongOrder();
        nearest();
        nearestAsTheRoomKnows();
        wrongNearest();
        Due.end();
    }

    private static void order() {
        Due.on("order");
        TwinRooms x = Steps.charged();
        Steps.charge(x, 0, 1);
        x.district(3, 1);
        x.road(2, 3, 10);
        Steps.place(x, 4, 2, 0);
        x.take(0, 3, 0);
        Steps.loseAll(x);
        Due.is("order", 4, x.order(0, 0));
        Due.is("letters", 2, x.letters());
        Steps.letterIs(x, 0, 5, 0, 7, 0, 2);
        Steps.letterIs(x, 1, 2, 0, 1, 0, 2);
        Steps.callIs(x, 0, 0, 3, 0, 1, 1, 4, 0, 2, 2, 0);
        Steps.unitKnown(x, 0, 4, 0, 2, -1, 1, 1);
        Steps.unitIs(x, 4, 0, 2, -1, 0, 1, 0);
        x.deliver(1);
        Steps.callIs(x, 1, 0, 3, 0, 1, 1, 4, 0, 2, 2, 0);
    }

    private static void whichUnit() {
        Due.on("which unit");
        TwinRooms x = Steps.charged();
        x.road(1, 0, 30);
        x.road(2, 0, 20);
        x.road(3, 0, 20);
        Steps.place(x, 0, 1, 0);
        Steps.place(x, 1, 4, 0);
        Steps.place(x, 2, 3, 0);
        Steps.place(x, 3, 2, 0);
        x.take(0, 0, 0);
        Due.is("least way, then least number", 2, x.order(0, 0));
        Due.is("the next one", 3, x.order(0, 0));
        Due.is("the farthest", 0, x.order(0, 0));
        Due.is("no way", -1, x.order(0, 0));
        Due.is("the unit ordered last", 0, x.callKnown(0, 0, 4));
        x.road(4, 0, 999);
        Due.is("a way now", 1, x.order(0, 0));
        Due.is("changes", 5, x.callKnown(0, 0, 7));
    }

    private static void fitting() {
        Due.on("fitting");
        for (int grade = 0; grade <= 5; grade++) {
            TwinRooms x = Steps.charged();
            x.road(1, 0, 1);
            x.road(2, 0, 2);
            x.road(3, 0, 3);
            Steps.place(x, 0, 3, 2);
            Steps.place(x, 1, 2, 1);
            Steps.place(x, 2, 1, 0);
            x.card(0, 1, 1, grade);
            x.take(0, 0, 0);
            int skill = grade == 0 || grade == 5 ? 2 : grade >= 3 ? 1 : 0;
            Due.is("grade " + grade, 2 - skill, x.order(0, 0));
        }
    }

    private static void asTheRoomKnows() {
        Due.on("as the room knows");
        TwinRooms x = Steps.charged();
        x.road(1, 0, 10);
        x.road(2, 0, 20);
        x.take(0, 0, 0);
        Steps.loseAll(x);
        Due.is("no reports", -1, x.order(0, 0));
        x.unit(0, 1, 0);
        x.unit(1, 2, 0);
        x.status(0, 0);
        x.status(1, 0);
        x.deliver(0);
        x.deliver(1);
        x.unit(0, 5, 0);
        Due.is("where it was when it reported", 0, x.order(0, 0));
        x.status(1, 3);
        Due.is("FREE as far as it knows", 1, x.order(0, 0));
        TwinRooms y = Steps.charged();
        Steps.place(y, 0, 0, 0);
        y.status(0, 3);
        y.deliver(0);
        y.take(0, 0, 0);
        Due.is("OUT", -1, y.order(0, 0));
        y.crash(0);
        y.mount(0);
        Steps.charge(y, 0, 0);
        Due.is("forgotten", -1, y.order(0, 0));
    }

    private static void withoutAUnit() {
        Due.on("without a unit");
        TwinRooms x = Steps.charged();
        x.card(0, 0, 0, 5);
        Steps.place(x, 0, 0, 1);
        x.take(0, 0, 0);
        Steps.loseAll(x);
        Due.is("order", -1, x.order(0, 0));
        Due.is("nothing", 0, x.letters());
        Steps.callIs(x, 0, 0, 0, 0, 5, 0, -1, 0, 1, 1, 0);
        x.unit(0, 0, 2);
        Due.is("its skill is its own", 0, x.order(0, 0));
    }

    private static void ordersAgain() {
        Due.on("orders again");
        TwinRooms x = Steps.charged();
        Steps.place(x, 0, 0, 0);
        x.take(0, 0, 0);
        x.order(0, 0);
        Steps.loseAll(x);
        Due.is("not FREE until a report comes", -1, x.order(0, 0));
        x.status(0, 0);
        Due.is("not before it comes", -1, x.order(0, 0));
        x.twin(0);
        x.deliver(0);
        Due.is("FREE again", 0, x.unitKnown(0, 0, 4));
        Due.is("order", 0, x.order(0, 0));
        x.deliver(1);
        Due.is("an old report is not taken", 1, x.unitKnown(0, 0, 4));
        Due.is("order", -1, x.order(0, 0));
        Due.is("changes", 3, x.callKnown(0, 0, 7));
    }

    private static void unitOnTheCall() {
        Due.on("unit on the call");
        TwinRooms x = Steps.charged();
        Steps.place(x, 0, 0, 0);
        Steps.place(x, 1, 0, 0);
        Steps.place(x, 2, 0, 0);
        x.take(0, 0, 0);
        x.take(0, 0, 1);
        x.order(0, 0);
        Steps.loseAllBut(x, 5);
        x.deliver(0);
        x.deliver(0);
        Due.state("MOVING", () -> x.order(0, 0));
        Due.is("another call", 1, x.order(0, 1));
        Steps.loseAll(x);
        x.status(0, 2);
        x.deliver(0);
        Due.state("AT SCENE", () -> x.order(0, 0));
        Due.is("nothing", 1, x.letters());
        x.status(0, 0);
        Due.state("AT SCENE as far as it knows", () -> x.order(0, 0));
        x.deliver(1);
        Due.is("FREE", 0, x.order(0, 0));
        Steps.loseAllBut(x, 5);
        x.deliver(0);
        Due.is("not known yet", 2, x.order(0, 0));
        x.crash(0);
        x.mount(0);
        Steps.charge(x, 0, 0);
        Due.is("forgotten", -1, x.order(0, 0));
    }

    private static void fullPost() {
        Due.on("full post");
        TwinRooms x = Steps.charged();
        Steps.place(x, 0, 0, 0);
        x.take(0, 0, 0);
        Steps.fill(x);
        Due.is("order", 0, x.order(0, 0));
        Due.is("lost at once", 48, x.letters());
        Steps.letterIs(x, 47, 0, 0, 2, 3, 0);
        Due.is("not FREE", 1, x.unitKnown(0, 0, 4));
        Steps.callIs(x, 0, 0, 0, 0, 1, 1, 0, 0, 1, 2, 0);
    }

    private static void wrongOrder() {
        Due.on("wrong order");
        TwinRooms x = Steps.charged();
        Steps.place(x, 0, 0, 0);
        x.take(0, 0, 0);
        Steps.loseAll(x);
        Due.argument("room 2", () -> x.order(2, 0));
        Due.argument("call 16", () -> x.order(0, 16));
        Due.argument("not known", () -> x.order(0, 1));
        Due.argument("not known there", () -> x.order(1, 0));
        for (int wrong : Steps.WRONG) {
            Due.argument("room", () -> x.order(wrong, 0));
            Due.argument("call", () -> x.order(0, wrong));
        }
        x.tick(40);
        Due.state("not in charge", () -> x.order(0, 0));
        Due.argument("not in charge, not known", () -> x.order(0, 1));
        Steps.charge(x, 0, 0);
        x.close(0, 0);
        Steps.loseAll(x);
        Due.state("CLOSED", () -> x.order(0, 0));
        Due.is("nothing", 0, x.letters());
        Due.is("no unit", -1, x.callKnown(0, 0, 4));
        x.crash(0);
        Due.state("down", () -> x.order(0, 0));
    }

    private static void nearest() {
        Due.on("nearest");
        TwinRooms x = new TwinRooms();
        x.road(1, 0, 30);
        x.road(2, 1, 5);
        x.road(3, 0, 30);
        Steps.place(x, 0, 2, 2);
        Steps.place(x, 1, 3, 1);
        Steps.place(x, 2, 1, 0);
        Steps.place(x, 3, 4, 2);
        Steps.place(x, 4, 0, 1);
        for (int room = 0; room < 2; room++) {
            nearestAre(x, room, 0, 0, 4, 1, 2, 0, -1, -1);
            nearestAre(x, room, 1, 0, 4, 1, 0, -1);
            nearestAre(x, room, 2, 0, 0, -1);
            nearestAre(x, room, 3, 0, -1);
            nearestAre(x, room, 0, 1, 2, 0, -1);
            nearestAre(x, room, 0, 4, 3, -1);
            nearestAre(x, room, 0, 5, -1);
            nearestAre(x, room, 0, 2, 0, -1);
        }
        x.road(2, 0, 1);
        x.road(4, 0, 30);
        Steps.place(x, 5, 0, 0);
        nearestAre(x, 0, 0, 0, 4, 5, 0, 1, 2, 3, -1);
        nearestAre(x, 0, 1, 0, 4, 0, 1, 3, -1);
    }

    private static void nearestAre(TwinRooms x, int room, int skill, int junction, int... units) {
        for (int i = 0; i < units.length; i++) {
            Due.is("nearest(" + room + ", " + skill + ", " + junction + ", " + i + ")", units[i],
                    x.nearest(room, skill, junction, i));
        }
    }

    private static void nearestAsTheRoomKnows() {
        Due.on("nearest as the room knows");
        TwinRooms x = Steps.charged();
        x.status(0, 0);
        x.deliver(0);
        nearestAre(x, 0, 0, 0, 0, -1);
        nearestAre(x, 1, 0, 0, -1);
        x.deliver(0);
        x.unit(0, 1, 2);
        nearestAre(x, 0, 2, 0, 0, -1);
        nearestAre(x, 0, 0, 1, -1);
        x.take(0, 0, 0);
        x.order(0, 0);
        nearestAre(x, 0, 0, 0, -1);
        nearestAre(x, 1, 0, 0, 0, -1);
        Steps.loseAll(x);
        x.status(0, 3);
        Steps.deliverNow(x);
        nearestAre(x, 0, 0, 1, -1);
        nearestAre(x, 1, 0, 1, -1);
        x.status(0, 0);
        Steps.deliverNow(x);
        nearestAre(x, 0, 0, 1, 0, -1);
        x.crash(1);
        nearestAre(x, 1, 0, 1, -1);
        nearestAre(x, 0, 0, 1, 0, -1);
    }

    private static void wrongNearest() {
        Due.on("wrong nearest");
        TwinRooms x = new TwinRooms();
        Steps.place(x, 0, 0, 2);
        Due.is("room 2", -1, x.nearest(2, 0, 0, 0));
        Due.is("junction 12", -1, x.nearest(0, 0, 12, 0));
        for (int wrong : Steps.WRONG) {
            Due.is("room", -1, x.nearest(wrong, 0, 0, 0));
            Due.is("junction", -1, x.nearest(0, 0, wrong, 0));
            Due.is("i", -1, x.nearest(0, 0, 0, wrong));
        }
        Due.is("skill 3", -1, x.nearest(0, 3, 0, 0));
        Due.is("most skill", -1, x.nearest(0, Integer.MAX_VALUE, 0, 0));
    }
}
