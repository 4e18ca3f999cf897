/** Objects in the middle of their work, for tests that look at what a call leaves as it was. */
final class Scenes {
    private static final int GRANT = 1;
    private static final int ORDER = 5;
    private static final int REPORT = 6;

    private Scenes() {
    }

    /**
     * Letters of every kind wait. Room 0 is in charge of district 0, room 1 of 1. Call 0 (grade 5) has
     * unit 0 MOVING to it; call 1 has no grade yet, is SURE, and an ORDER waits for unit 1; call 2 is CLOSED
     * without a grade; room 1 took call 8, and unit 2 is AT SCENE there. Unit 3 is OUT; unit 4 and unit 5
     * are FREE, but no room knows of unit 5. Room 1's clock has speed 49.
     */
    static TwinRooms busy() {
        TwinRooms x = new TwinRooms();
        buildTown(x);
        x.speed(1, 49);
        x.tick(3);
        x.crash(1);
        x.mount(1);
        report(x, 0, 2, 2);
        report(x, 1, 0, 2);
        report(x, 4, 5, 1);
        Steps.charge(x, 0, 0);
        Steps.charge(x, 1, 1);
        x.take(0, 1, 7);
        x.answer(0, 0, true);
        x.order(0, 0);
        deliverLast(x, ORDER);
        deliverLast(x, REPORT);
        deliverLast(x, REPORT);
        takeInRoom1(x);
        x.take(0, 0, 8);
        x.order(0, 1);
        x.take(0, 0, 10);
        x.close(0, 2);
        goOut(x, 3);
        storeAndAsk(x);
        return x;
    }

    private static void buildTown(TwinRooms x) {
        x.road(0, 1, 30);
        x.road(1, 0, 40);
        x.road(2, 1, 5);
        x.road(3, 2, 60);
        x.road(6, 3, 7);
        x.district(3, 1);
        x.district(4, 2);
        x.card(0, 1, 2, 0);
        x.card(1, 0, 0, 5);
        x.card(2, 3, 1, 0);
        x.card(3, 0, 0, 3);
    }

    private static void takeInRoom1(TwinRooms x) {
        report(x, 2, 6, 2);
        x.take(1, 3, 9);
        x.order(1, 8);
        deliverLast(x, ORDER);
        x.status(2, 2);
        deliverLast(x, REPORT);
        deliverLast(x, REPORT);
    }

    private static void goOut(TwinRooms x, int unit) {
        x.status(unit, 3);
        deliverLast(x, REPORT);
        deliverLast(x, REPORT);
    }

    private static void storeAndAsk(TwinRooms x) {
        x.store(0, 1);
        x.store(1, 8);
        x.deliver(x.letters() - 2);
        x.twin(x.letters() - 1);
        x.deliver(x.letters() - 1);
        x.tick(2);
        x.ask(0, 0);
        x.deliver(x.letters() - 1);
        x.ask(1, 2);
        x.status(4, 0);
    }

    /** As busy, but 48 letters wait. */
    static TwinRooms full() {
        TwinRooms x = busy();
        Steps.fill(x);
        return x;
    }

    /** As busy, but this room is down. */
    static TwinRooms down(int room) {
        TwinRooms x = busy();
        x.crash(room);
        return x;
    }

    /** The unit is set, and its report goes through to both rooms. */
    static void report(TwinRooms x, int unit, int junction, int skill) {
        x.unit(unit, junction, skill);
        x.status(unit, x.unitIs(unit, 0));
        deliverLast(x, REPORT);
        deliverLast(x, REPORT);
    }

    /** Whether there was a letter of this kind. */
    static boolean deliverLast(TwinRooms x, int kind) {
        for (int i = x.letters() - 1; i >= 0; i--) {
            if (x.letter(i, 0) == kind) {
                return x.deliver(i);
            }
        }
        return false;
    }

    /** The room is in charge of the district by a new grant, whatever was granted before. */
    static void chargeLater(TwinRooms x, int room, int district) {
        x.ask(room, district);
        x.deliver(x.letters() - 1);
        deliverLast(x, GRANT);
    }
}
