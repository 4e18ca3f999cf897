import java.util.Random;

/** Promises 8 to 11: speed, tick, ask, grantOf; letters ASK and GRANT. */
public final class GrantsTest {

    public static void main(String[] args) {
        speed();
        speedMeanwhile();
        tick();
        ask();
        firstGrants();
        refereeWaits();
        lateLetters();
        olderAskLater();
        oldGrants();
        grantsEnd();
        clockOfARoomThatIsDown();
        copiesWithAGrant();
        wrongGrantOf();
        oneRoomAtATime();
        Due.end();
    }

    private static void speed() {
        Due.on("speed");
        for (int speed = 49; speed <= 51; speed++) {
            TwinRooms x = new TwinRooms();
            Due.yes("speed", x.speed(1, speed));
            Steps.charge(x, 0, 0);
            Steps.charge(x, 1, 1);
            x.tick(speed == 49 ? 40 : 39);
            Due.is("still", 2, x.grantOf(1, 1));
            x.tick(1);
            Due.is("no more", 0, x.grantOf(1, 1));
            Due.is("the other room's clock", 0, x.grantOf(0, 0));
        }
        TwinRooms x = new TwinRooms();
        Due.no("speed 48", x.speed(0, 48));
        Due.no("speed 52", x.speed(0, 52));
        Due.no("room 2", x.speed(2, 50));
        for (int wrong : Steps.WRONG) {
            Due.no("room", x.speed(wrong, 50));
            Due.no("speed", x.speed(0, wrong));
        }
    }

    private static void speedMeanwhile() {
        Due.on("speed meanwhile");
        TwinRooms x = Steps.charged();
        x.speed(0, 51);
        x.tick(20);
        x.speed(0, 49);
        x.tick(19);
        Due.is("1951 gone", 1, x.grantOf(0, 0));
        x.tick(1);
        Due.is("2000 gone", 0, x.grantOf(0, 0));
    }

    private static void tick() {
        Due.on("tick");
        TwinRooms x = new TwinRooms();
        x.speed(0, 51);
        Due.is("tick(1)", 50, x.tick(1));
        Due.is("tick(1000)", 50050, x.tick(1000));
        Due.is("tick(0)", 50050, x.tick(0));
        Due.argument("tick(-1)", () -> x.tick(-1));
        Due.argument("tick(1001)", () -> x.tick(1001));
        Due.argument("tick(least)", () -> x.tick(Integer.MIN_VALUE));
        Due.argument("tick(most)", () -> x.tick(Integer.MAX_VALUE));
        Due.is("tick(0)", 50050, x.tick(0));
        for (int k = 0; k < 400; k++) {
            x.tick(1000);
        }
        Due.is("tick(0)", 20050050, x.tick(0));
    }

    private static void ask() {
        Due.on("ask");
        TwinRooms x = new TwinRooms();
        x.ask(1, 3);
        Steps.letterIs(x, 0, 0, 1, 2, 3, 0, -1);
        Due.is("letters", 1, x.letters());
        Due.argumentOf("room 2", () -> x.ask(2, 0));
        Due.argumentOf("district 4", () -> x.ask(0, 4));
        for (int wrong : Steps.WRONG) {
            Due.argumentOf("room", () -> x.ask(wrong, 0));
            Due.argumentOf("district", () -> x.ask(0, wrong));
        }
        x.crash(0);
        Due.stateOf("down", () -> x.ask(0, 0));
        Due.argumentOf("down, district 4", () -> x.ask(0, 4));
        Due.is("letters", 1, x.letters());
        x.mount(0);
        x.ask(0, 0);
        Due.is("letters", 3, x.letters());
    }

    private static void firstGrants() {
        Due.on("first grants");
        TwinRooms x = new TwinRooms();
        x.ask(0, 2);
        x.ask(1, 3);
        x.ask(1, 2);
        x.deliver(1);
        Steps.letterIs(x, 2, 1, 2, 1, 3, 1, -1);
        x.deliver(0);
        Steps.letterIs(x, 2, 1, 2, 0, 2, 2, -1);
        x.deliver(0);
        Due.is("the other room's: nothing", 2, x.letters());
        Due.is("not yet", 0, x.grantOf(0, 2));
        x.deliver(0);
        x.deliver(0);
        Due.is("grantOf(1, 3)", 1, x.grantOf(1, 3));
        Due.is("grantOf(0, 2)", 2, x.grantOf(0, 2));
        Due.is("grantOf(0, 3)", 0, x.grantOf(0, 3));
        Due.is("grantOf(1, 2)", 0, x.grantOf(1, 2));
        Steps.charge(x, 0, 2);
        Due.is("to the same room again", 3, x.grantOf(0, 2));
    }

    private static void refereeWaits() {
        Due.on("the referee waits");
        TwinRooms x = new TwinRooms();
        x.tick(5);
        x.ask(0, 0);
        x.tick(10);
        x.deliver(0);
        Steps.loseAll(x);
        x.tick(41);
        x.ask(1, 0);
        x.deliver(0);
        Due.is("2050 after the grant: nothing", 0, x.letters());
        x.tick(1);
        x.ask(1, 0);
        x.deliver(0);
        Steps.letterIs(x, 0, 1, 2, 1, 0, 2);
        Steps.loseAll(x);
        x.tick(41);
        x.ask(0, 0);
        x.deliver(0);
        Due.is("granted to the other one now: nothing", 0, x.letters());
        x.ask(1, 0);
        x.deliver(0);
        Steps.letterIs(x, 0, 1, 2, 1, 0, 3);
        Steps.loseAll(x);
        x.tick(1);
        x.ask(0, 0);
        x.deliver(0);
        Due.is("granted anew a second ago: nothing", 0, x.letters());
    }

    private static void lateLetters() {
        Due.on("late letters");
        TwinRooms x = new TwinRooms();
        x.tick(7);
        x.ask(0, 1);
        x.tick(30);
        x.deliver(0);
        x.tick(9);
        x.deliver(0);
        Due.is("1950 since it asked", 1, x.grantOf(0, 1));
        x.tick(1);
        Due.is("2000 since it asked", 0, x.grantOf(0, 1));
        x.ask(0, 1);
        x.tick(40);
        x.deliver(0);
        x.deliver(0);
        Due.is("too late from the first", 0, x.grantOf(0, 1));
    }

    private static void olderAskLater() {
        Due.on("an older ask later");
        TwinRooms x = new TwinRooms();
        x.ask(0, 0);
        x.tick(20);
        x.ask(0, 0);
        x.deliver(1);
        x.deliver(1);
        Due.is("the newer one", 1, x.grantOf(0, 0));
        x.deliver(0);
        x.deliver(0);
        Due.is("the older one", 2, x.grantOf(0, 0));
        x.tick(20);
        Due.is("counted from the older one", 0, x.grantOf(0, 0));
    }

    private static void oldGrants() {
        Due.on("old grants");
        TwinRooms x = new TwinRooms();
        x.ask(0, 0);
        x.deliver(0);
        x.tick(1);
        x.ask(0, 0);
        x.deliver(1);
        x.deliver(1);
        Due.is("the second", 2, x.grantOf(0, 0));
        x.twin(0);
        x.deliver(0);
        Due.is("the first is not taken", 2, x.grantOf(0, 0));
        x.crash(0);
        x.mount(0);
        x.deliver(0);
        Due.is("nor after it was down", 0, x.grantOf(0, 0));
        Steps.charge(x, 0, 1);
        Due.is("a district of its own", 3, x.grantOf(0, 1));
        x.ask(0, 0);
        x.deliver(x.letters() - 1);
        x.twin(x.letters() - 1);
        x.deliver(x.letters() - 1);
        Due.is("a higher one", 4, x.grantOf(0, 0));
        x.crash(0);
        x.mount(0);
        x.deliver(1);
        Due.is("the same again", 0, x.grantOf(0, 0));
        x.ask(0, 0);
        x.deliver(x.letters() - 1);
        x.crash(0);
        x.mount(0);
        x.deliver(2);
        Due.is("one asked for before it went down", 5, x.grantOf(0, 0));
    }

    private static void grantsEnd() {
        Due.on("grants end");
        TwinRooms x = Steps.charged();
        Steps.charge(x, 0, 3);
        x.crash(0);
        Due.is("down", 0, x.grantOf(0, 0));
        Due.is("down", 0, x.grantOf(0, 3));
        x.mount(0);
        Due.is("up again", 0, x.grantOf(0, 0));
        Due.is("up again", 0, x.grantOf(0, 3));
        TwinRooms y = new TwinRooms();
        y.ask(1, 0);
        y.deliver(0);
        y.crash(1);
        y.deliver(0);
        y.mount(1);
        Due.is("lost in a room that was down", 0, y.grantOf(1, 0));
    }

    private static void clockOfARoomThatIsDown() {
        Due.on("the clock of a room that is down");
        TwinRooms x = new TwinRooms();
        x.ask(0, 0);
        x.deliver(0);
        x.crash(0);
        x.tick(39);
        x.mount(0);
        x.deliver(0);
        Due.is("1950 gone", 1, x.grantOf(0, 0));
        x.tick(1);
        Due.is("2000 gone", 0, x.grantOf(0, 0));
    }

    private static void copiesWithAGrant() {
        Due.on("copies with a grant");
        TwinRooms x = Steps.charged();
        x.district(9, 1);
        Steps.charge(x, 1, 1);
        x.take(0, 3, 1);
        x.take(0, 4, 2);
        x.take(0, 5, 3);
        x.take(1, 9, 4);
        x.store(1, 8);
        x.store(0, 2);
        x.store(0, 0);
        Steps.deliverNow(x);
        Steps.loseAll(x);
        x.ask(0, 0);
        x.deliver(0);
        Due.is("letters", 3, x.letters());
        Steps.letterIs(x, 0, 1, 2, 0, 0, 3);
        Steps.letterIs(x, 1, 2, 2, 0, 0, 1);
        Steps.letterIs(x, 2, 2, 2, 0, 2, 1);
        Steps.loseAll(x);
        x.district(9, 2);
        x.district(5, 2);
        x.ask(1, 2);
        x.deliver(0);
        Due.is("letters", 3, x.letters());
        Steps.letterIs(x, 0, 1, 2, 1, 2, 4);
        Steps.letterIs(x, 1, 2, 2, 1, 2, 1);
        Steps.letterIs(x, 2, 2, 2, 1, 8, 2);
        Steps.deliverNow(x);
        Due.is("the referee's are not receipted", 0, x.letters());
        Due.is("known", 5, x.callKnown(1, 2, 0));
    }

    private static void wrongGrantOf() {
        Due.on("wrong grantOf");
        TwinRooms x = Steps.charged();
        Due.is("room 2", 0, x.grantOf(2, 0));
        Due.is("district 4", 0, x.grantOf(0, 4));
        for (int wrong : Steps.WRONG) {
            Due.is("room", 0, x.grantOf(wrong, 0));
            Due.is("district", 0, x.grantOf(0, wrong));
        }
    }

    /** Whatever happens to letters, clocks and rooms: no district is in the charge of both rooms. */
    private static void oneRoomAtATime() {
        Due.on("one room at a time");
        Random random = new Random(1);
        int[] inCharge = new int[2];
        for (int run = 0; run < 400; run++) {
            TwinRooms x = new TwinRooms();
            for (int step = 0; step < 100; step++) {
                anyStep(x, random, 1 + run % 4);
                int first = x.grantOf(0, 0);
                int second = x.grantOf(1, 0);
                Due.no("both: " + first + " and " + second, first > 0 && second > 0);
                inCharge[0] += first > 0 ? 1 : 0;
                inCharge[1] += second > 0 ? 1 : 0;
            }
        }
        Due.yes("room 0 was", inCharge[0] > 4000);
        Due.yes("room 1 was", inCharge[1] > 4000);
    }

    private static void anyStep(TwinRooms x, Random random, int seconds) {
        int room = random.nextInt(2);
        int waiting = x.letters();
        switch (random.nextInt(20)) {
            case 0, 1, 2: x.tick(random.nextInt(7 * seconds)); break;
            case 3: x.tick(seconds); break;
            case 4: x.speed(room, 49 + random.nextInt(3)); break;
            case 5: x.crash(random.nextInt(8)); break;
            case 6, 7: x.mount(room); break;
            case 8, 9, 10, 11: Due.answerOf(() -> askFor0(x, room)); break;
            case 12: x.twin(random.nextInt(waiting + 1)); break;
            case 13: x.lose(random.nextInt(waiting + 1)); break;
            default: x.deliver(random.nextInt(waiting + 1)); break;
        }
    }

    private static long askFor0(TwinRooms x, int room) {
        x.ask(room, 0);
        return 0;
    }
}
