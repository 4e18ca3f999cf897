/** The boundary cases of promises 8 to 11: speed, tick, ask, grantOf; ASK and GRANT. */
public final class ClockEdgesTest {
    private static final int ASK = 0;
    private static final int GRANT = 1;
    private static final Refusals BUSY = new Refusals(Scenes::busy);

    public static void main(String[] args) {
        speedBounds();
        noSuchSpeed();
        tickBounds();
        noSuchTime();
        clocksOfRooms();
        askBounds();
        noSuchAsk();
        askOfARoomThatIsDown();
        twoThousand();
        twoThousandSinceItAsked();
        twoThousandOfARoomThatIsDown();
        twentyOneHundred();
        neverGrantedOrToThisRoomLast();
        oneSeries();
        whichGrantARoomHas();
        grantsBeforeGoingDown();
        grantOfBounds();
        noSuchGrantOf();
        Due.end();
    }

    private static void speedBounds() {
        Due.on("promise 8: rooms 0 and 1, speeds 49 .. 51");
        for (int room : Edges.inside(0, 1)) {
            Due.is("49", 41, lasts(room, 49, 49));
            Due.is("50 at first", 40, lasts(room, 50, 50));
            Due.is("51: 40 of 51", 40, lasts(room, 51, 51));
            Due.is("20 of 49, 20 of 50 are not enough", 41, lasts(room, 49, 50));
            Due.is("20 of 50, 20 of 50", 40, lasts(room, 50, 50));
            Due.is("20 of 51, 20 of 49", 40, lasts(room, 51, 49));
            Due.is("20 of 50, 20 of 49 are not enough", 41, lasts(room, 50, 49));
        }
    }

    /** For how many seconds a grant lasts, with a speed in the first 20 of them and another then. */
    private static int lasts(int room, int speed, int speedThen) {
        TwinRooms x = new TwinRooms();
        Steps.charge(x, room, 0);
        Due.yes("speed", x.speed(room, speed));
        x.tick(20);
        Due.yes("speed", x.speed(room, speedThen));
        int seconds = 20;
        while (seconds < 60 && x.grantOf(room, 0) > 0) {
            x.tick(1);
            seconds++;
        }
        return seconds;
    }

    private static void noSuchSpeed() {
        Due.on("promise 8: no such room, or speed");
        for (int wrong : Edges.NO_ROOM) {
            BUSY.no("room " + wrong, x -> x.speed(wrong, 51));
        }
        for (int wrong : Edges.outside(49, 51)) {
            BUSY.no("room 0, speed " + wrong, x -> x.speed(0, wrong));
            BUSY.no("room 1, speed " + wrong, x -> x.speed(1, wrong));
        }
        BUSY.no("speed 0", x -> x.speed(0, 0));
    }

    private static void tickBounds() {
        Due.on("promise 9: 0 .. 1000 seconds");
        TwinRooms x = new TwinRooms();
        Due.is("tick(0)", 0, x.tick(0));
        Due.is("tick(1)", 50, x.tick(1));
        Due.is("tick(1000)", 50050, x.tick(1000));
        Due.is("tick(999)", 100000, x.tick(999));
        Due.is("tick(0)", 100000, x.tick(0));
        BUSY.answers("tick(0) changes nothing", 250, y -> (int) y.tick(0));
    }

    private static void noSuchTime() {
        Due.on("promise 9: another time");
        for (int wrong : Edges.outside(0, 1000)) {
            BUSY.argument("tick(" + wrong + ")", x -> x.tick(wrong));
        }
    }

    private static void clocksOfRooms() {
        Due.on("terms: the greatest time that 512 calls let go by");
        TwinRooms x = new TwinRooms();
        x.speed(0, 51);
        x.speed(1, 49);
        for (int k = 0; k < 480; k++) {
            x.tick(1000);
        }
        Due.is("the referee's clock", 24000000, x.tick(0));
        Steps.charge(x, 0, 0);
        Steps.charge(x, 1, 1);
        x.tick(39);
        Due.is("1989 of 51", 1, x.grantOf(0, 0));
        x.tick(1);
        Due.is("2040 of 51", 0, x.grantOf(0, 0));
        Due.is("1960 of 49", 2, x.grantOf(1, 1));
        x.tick(1);
        Due.is("2009 of 49", 0, x.grantOf(1, 1));
    }

    private static void askBounds() {
        Due.on("promise 10: rooms 0 and 1, districts 0 .. 3");
        for (int room : Edges.inside(0, 1)) {
            for (int district : Edges.inside(0, 3)) {
                TwinRooms x = new TwinRooms();
                x.ask(room, district);
                Due.is("letters", 1, x.letters());
                Steps.letterIs(x, 0, ASK, room, 2, district, 0);
                x.deliver(0);
                Steps.letterIs(x, 0, GRANT, 2, room, district, 1);
                x.deliver(0);
                Due.is("grantOf", 1, x.grantOf(room, district));
            }
        }
    }

    private static void noSuchAsk() {
        Due.on("promise 10: none such");
        Refusals down = new Refusals(() -> Scenes.down(0));
        for (int wrong : Edges.NO_ROOM) {
            BUSY.argument("room " + wrong, x -> x.ask(wrong, 0));
        }
        for (int wrong : Edges.NO_DISTRICT) {
            BUSY.argument("district " + wrong, x -> x.ask(0, wrong));
            down.argument("down, district " + wrong, x -> x.ask(0, wrong));
        }
    }

    private static void askOfARoomThatIsDown() {
        Due.on("promise 10: the room is down");
        for (int room : Edges.inside(0, 1)) {
            Refusals down = new Refusals(() -> Scenes.down(room));
            for (int district : Edges.inside(0, 3)) {
                down.state("ask", x -> x.ask(room, district));
            }
            TwinRooms x = Scenes.down(room);
            int letters = x.letters();
            x.ask(1 - room, 3);
            Due.is("the other one isn't", letters + 1, x.letters());
        }
    }

    private static void twoThousand() {
        Due.on("terms: a room's clock has not gone 2000 or more since it asked");
        for (int room : Edges.inside(0, 1)) {
            goneIs("1999", room, 49, 1);
            goneIs("2000", room, 50, 0);
            goneIs("2001", room, 51, 0);
        }
    }

    /** After 39 seconds of 50 there is one of the speed. */
    private static void goneIs(String gone, int room, int speed, int want) {
        TwinRooms x = new TwinRooms();
        Steps.charge(x, room, 0);
        x.tick(39);
        Due.is("1950", 1, x.grantOf(room, 0));
        x.speed(room, speed);
        x.tick(1);
        Due.is(gone, want, x.grantOf(room, 0));
        if (want > 0) {
            Due.is(gone + ": take", 8 * room, x.take(room, 0, 0));
        } else {
            Due.state(gone + ": take", () -> x.take(room, 0, 0));
        }
        x.speed(room, 49);
        x.tick(1);
        Due.is("2048 or more", 0, x.grantOf(room, 0));
    }

    private static void twoThousandSinceItAsked() {
        Due.on("terms: since it asked, not since the referee granted, or the GRANT came");
        for (int wait = 0; wait <= 41; wait++) {
            TwinRooms x = new TwinRooms();
            x.tick(9);
            x.ask(0, 2);
            x.tick(wait / 2);
            x.deliver(0);
            x.tick(wait - wait / 2);
            x.deliver(0);
            Due.is("after " + wait + " seconds", wait < 40 ? 1 : 0, x.grantOf(0, 2));
            if (wait < 40) {
                x.tick(39 - wait);
                Due.is("1950", 1, x.grantOf(0, 2));
                x.tick(1);
                Due.is("2000", 0, x.grantOf(0, 2));
            }
        }
    }

    private static void twoThousandOfARoomThatIsDown() {
        Due.on("terms: a room's clock counts also if it is down");
        for (int down = 38; down <= 40; down++) {
            TwinRooms x = new TwinRooms();
            x.ask(1, 0);
            x.deliver(0);
            x.crash(1);
            x.tick(down);
            x.mount(1);
            x.deliver(0);
            Due.is("after " + down + " seconds", down < 40 ? 1 : 0, x.grantOf(1, 0));
        }
    }

    private static void twentyOneHundred() {
        Due.on("terms: granted to the other room 2100 of the referee's clock ago");
        for (int seconds = 0; seconds <= 43; seconds++) {
            TwinRooms x = new TwinRooms();
            x.tick(7);
            x.ask(0, 1);
            x.ask(1, 1);
            x.tick(5);
            x.deliver(0);
            x.tick(seconds);
            x.deliver(0);
            Due.is("letters after " + seconds, seconds >= 42 ? 2 : 1, x.letters());
            Due.is("letter(1, 4)", seconds >= 42 ? 2 : -1, x.letter(1, 4));
            x.ask(1, 2);
            x.deliver(x.letters() - 1);
            Due.is("no number was lost", seconds >= 42 ? 3 : 2, x.letter(x.letters() - 1, 4));
        }
    }

    private static void neverGrantedOrToThisRoomLast() {
        Due.on("terms: never granted, or to this room last");
        for (int seconds = 0; seconds <= 43; seconds++) {
            TwinRooms x = new TwinRooms();
            x.ask(1, 1);
            x.deliver(0);
            x.tick(seconds);
            x.ask(1, 1);
            x.ask(0, 3);
            x.deliver(1);
            x.deliver(1);
            Steps.letterIs(x, 1, GRANT, 2, 1, 1, 2);
            Steps.letterIs(x, 2, GRANT, 2, 0, 3, 3);
        }
        TwinRooms x = new TwinRooms();
        x.crash(0);
        x.crash(1);
        x.mount(1);
        x.mount(0);
        Steps.loseAll(x);
        Steps.charge(x, 1, 0);
        x.crash(1);
        x.ask(0, 0);
        x.deliver(0);
        Due.is("granted to a room that is down now", 0, x.letters());
    }

    private static void oneSeries() {
        Due.on("terms: the next number of one series, beginning with 1");
        TwinRooms x = new TwinRooms();
        int number = 0;
        for (int round = 0; round < 6; round++) {
            for (int d = 0; d < 4; d++) {
                Steps.charge(x, d % 2, d);
                number++;
                Due.is("grantOf", number, x.grantOf(d % 2, d));
                x.ask(1 - d % 2, d);
                x.deliver(0);
                Due.is("refused: no letter", 0, x.letters());
            }
        }
    }

    /** Grants 1, 2 and 3 for district 2 wait for room 1; it asked at 0, 100 and 200. */
    private static TwinRooms threeGrants() {
        TwinRooms x = new TwinRooms();
        for (int number = 1; number <= 3; number++) {
            x.ask(1, 2);
            x.deliver(x.letters() - 1);
            Steps.letterIs(x, number - 1, GRANT, 2, 1, 2, number);
            x.tick(2);
        }
        return x;
    }

    private static void whichGrantARoomHas() {
        Due.on("terms: a room has a grant, if its number is higher than that of any it had");
        for (int first = 1; first <= 3; first++) {
            for (int second = 1; second <= 3; second++) {
                TwinRooms x = threeGrants();
                x.twin(first - 1);
                x.deliver(3);
                Due.is("the first", first, x.grantOf(1, 2));
                x.deliver(second - 1);
                int has = Math.max(first, second);
                Due.is("the second", has, x.grantOf(1, 2));
                x.tick(31 + 2 * has);
                Due.is("1950 since it asked", has, x.grantOf(1, 2));
                x.tick(1);
                Due.is("2000 since it asked", 0, x.grantOf(1, 2));
            }
        }
    }

    private static void grantsBeforeGoingDown() {
        Due.on("terms: also before it went down");
        for (int first = 1; first <= 3; first++) {
            for (int second = 1; second <= 3; second++) {
                TwinRooms x = threeGrants();
                x.twin(first - 1);
                x.deliver(3);
                x.crash(1);
                Due.is("down", 0, x.grantOf(1, 2));
                x.mount(1);
                Due.is("no grant any more", 0, x.grantOf(1, 2));
                x.deliver(second - 1);
                Due.is("higher ones alone", second > first ? second : 0, x.grantOf(1, 2));
            }
        }
        TwinRooms x = threeGrants();
        x.crash(1);
        x.deliver(2);
        x.mount(1);
        x.deliver(0);
        Due.is("one lost in a room that was down, it never had", 1, x.grantOf(1, 2));
    }

    private static void grantOfBounds() {
        Due.on("promise 11: 0 if it isn't in charge");
        BUSY.answers("grantOf(0, 0)", 1, x -> x.grantOf(0, 0));
        BUSY.answers("grantOf(1, 1)", 2, x -> x.grantOf(1, 1));
        BUSY.answers("the other room's", 0, x -> x.grantOf(1, 0));
        BUSY.answers("the other room's", 0, x -> x.grantOf(0, 1));
        BUSY.answers("asked, not granted", 0, x -> x.grantOf(1, 2));
        BUSY.answers("never asked for", 0, x -> x.grantOf(0, 3));
        new Refusals(() -> Scenes.down(0)).answers("down", 0, x -> x.grantOf(0, 0));
    }

    private static void noSuchGrantOf() {
        Due.on("promise 11: no such room or district");
        for (int wrong : Edges.NO_ROOM) {
            BUSY.answers("room " + wrong, 0, x -> x.grantOf(wrong, 0));
        }
        for (int wrong : Edges.NO_DISTRICT) {
            BUSY.answers("district " + wrong, 0, x -> x.grantOf(0, wrong));
        }
    }
}
