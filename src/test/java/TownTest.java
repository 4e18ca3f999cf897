/** Promises 1 to 5 and 24: a new object, road, district, card, questions, eta. */
public final class TownTest {

    public static void main(String[] args) {
        newObject();
        roads();
        wrongRoads();
        thirtyRoads();
        ways();
        wrongEta();
        districts();
        cards();
        questions();
        endlessQuestions();
        Due.end();
    }

    private static void newObject() {
        Due.on("new object");
        TwinRooms x = new TwinRooms();
        Due.is("NONE", -1, TwinRooms.NONE);
        Due.is("letters", 0, x.letters());
        Due.is("tick(0)", 0, x.tick(0));
        for (int u = 0; u < 6; u++) {
            Steps.unitIs(x, u, 0, 0, -1, 0, 0, 0, -1);
            Due.is("eta to 0", 0, x.eta(u, 0));
            Due.is("eta to 11", -1, x.eta(u, 11));
        }
        for (int n = 0; n < 16; n++) {
            Due.is("questions", 0, x.questions(n));
        }
        for (int room = 0; room < 2; room++) {
            for (int d = 0; d < 4; d++) {
                Due.is("grantOf", 0, x.grantOf(room, d));
            }
            for (int u = 0; u < 6; u++) {
                Steps.unitKnown(x, room, u, -1, -1, -1, -1, -1);
            }
            Due.no("mount", x.mount(room));
        }
        for (int who = 0; who < 3; who++) {
            for (int call = 0; call < 16; call++) {
                Due.is("callKnown", -1, x.callKnown(who, call, 0));
            }
        }
        everyJunctionInDistrict0();
    }

    private static void everyJunctionInDistrict0() {
        TwinRooms x = Steps.charged();
        for (int j = 0; j < 8; j++) {
            Due.is("take", j, x.take(0, j + 4, 5));
            Due.is("grade", 1, x.callKnown(0, j, 2));
        }
        Due.is("take at 0", 8, chargedRoom1().take(1, 0, 1));
    }

    private static TwinRooms chargedRoom1() {
        TwinRooms x = new TwinRooms();
        Steps.charge(x, 1, 0);
        return x;
    }

    private static void roads() {
        Due.on("road");
        TwinRooms x = new TwinRooms();
        Due.yes("road", x.road(0, 1, 1));
        Due.is("eta", 1, x.eta(0, 1));
        Due.yes("other seconds", x.road(0, 1, 999));
        Due.is("eta", 999, x.eta(0, 1));
        x.unit(0, 1, 0);
        Due.is("one way only", -1, x.eta(0, 0));
        Due.yes("gone", x.road(0, 1, 0));
        x.unit(0, 0, 0);
        Due.is("eta", -1, x.eta(0, 1));
        Due.yes("0 where none is", x.road(0, 1, 0));
        Due.yes("the last junction", x.road(11, 0, 7));
        x.unit(0, 11, 0);
        Due.is("eta", 7, x.eta(0, 0));
    }

    private static void wrongRoads() {
        Due.on("wrong road");
        TwinRooms x = new TwinRooms();
        Due.no("1000 seconds", x.road(0, 1, 1000));
        Due.no("-1 seconds", x.road(0, 1, -1));
        Due.no("the same junction", x.road(3, 3, 5));
        Due.no("the same junction, 0", x.road(3, 3, 0));
        Due.no("from 12", x.road(12, 0, 5));
        Due.no("to 12", x.road(0, 12, 5));
        Due.no("to 12, 0", x.road(0, 12, 0));
        for (int wrong : Steps.WRONG) {
            Due.no("from", x.road(wrong, 0, 5));
            Due.no("to", x.road(0, wrong, 5));
        }
        Due.no("many seconds", x.road(0, 1, Integer.MAX_VALUE));
        Due.no("few seconds", x.road(0, 1, Integer.MIN_VALUE));
        Due.is("eta", -1, x.eta(0, 1));
    }

    private static void thirtyRoads() {
        Due.on("thirty roads");
        TwinRooms x = new TwinRooms();
        for (int k = 0; k < 30; k++) {
            int from = k / 11;
            int to = k % 11 < from ? k % 11 : k % 11 + 1;
            Due.yes("road " + from + " " + to, x.road(from, to, 10));
        }
        Due.no("a 31st", x.road(11, 0, 10));
        Due.yes("none where none is", x.road(11, 0, 0));
        Due.no("a 31st still", x.road(11, 0, 10));
        Due.yes("other seconds of a road", x.road(0, 1, 20));
        Due.no("a 31st after other seconds", x.road(11, 0, 10));
        Due.yes("one gone", x.road(0, 1, 0));
        Due.yes("gone already", x.road(0, 1, 0));
        Due.yes("a 30th", x.road(11, 0, 10));
        Due.no("a 31st again", x.road(0, 1, 10));
        x.unit(0, 11, 0);
        Due.is("eta", 20, x.eta(0, 2));
        Due.yes("1 second", x.road(11, 0, 1));
        Due.no("a 31st", x.road(0, 1, 1));
        Due.yes("one of 1 second gone", x.road(11, 0, 0));
        Due.yes("a 30th of 1 second", x.road(0, 1, 1));
        Due.no("a 31st", x.road(11, 0, 1));
    }

    private static void ways() {
        Due.on("eta");
        TwinRooms x = new TwinRooms();
        x.road(0, 5, 100);
        x.road(0, 3, 20);
        x.road(3, 7, 20);
        x.road(7, 5, 59);
        Due.is("three roads are shorter", 99, x.eta(2, 5));
        x.road(7, 5, 61);
        Due.is("the straight one", 100, x.eta(2, 5));
        x.road(0, 5, 0);
        Due.is("three roads", 101, x.eta(2, 5));
        Due.is("to itself", 0, x.eta(2, 0));
        longWay();
        longWayBack();
    }

    private static void longWay() {
        TwinRooms x = new TwinRooms();
        for (int j = 0; j < 11; j++) {
            x.road(j, j + 1, 999);
        }
        Due.is("along all junctions", 11 * 999, x.eta(0, 11));
        x.unit(0, 11, 0);
        Due.is("not back", -1, x.eta(0, 0));
        x.road(11, 0, 1);
        Due.is("round", 1 + 10 * 999, x.eta(0, 10));
    }

    private static void longWayBack() {
        TwinRooms x = new TwinRooms();
        for (int j = 0; j < 11; j++) {
            x.road(j + 1, j, 999);
        }
        x.unit(5, 11, 0);
        Due.is("down all junctions", 11 * 999, x.eta(5, 0));
    }

    private static void wrongEta() {
        Due.on("wrong eta");
        TwinRooms x = new TwinRooms();
        Due.is("unit 6", -1, x.eta(6, 0));
        Due.is("junction 12", -1, x.eta(0, 12));
        for (int wrong : Steps.WRONG) {
            Due.is("unit", -1, x.eta(wrong, 0));
            Due.is("junction", -1, x.eta(0, wrong));
        }
    }

    private static void districts() {
        Due.on("district");
        TwinRooms x = Steps.charged();
        Due.yes("district", x.district(11, 3));
        Due.state("take", () -> x.take(0, 11, 1));
        Steps.charge(x, 1, 3);
        Due.is("take", 8, x.take(1, 11, 1));
        Due.yes("back", x.district(11, 0));
        Due.is("take", 0, x.take(0, 11, 1));
        Due.no("junction 12", x.district(12, 0));
        Due.no("district 4", x.district(0, 4));
        for (int wrong : Steps.WRONG) {
            Due.no("junction", x.district(wrong, 0));
            Due.no("district", x.district(0, wrong));
        }
        Due.is("nothing changed", 1, x.take(0, 0, 1));
    }

    private static void cards() {
        Due.on("card");
        TwinRooms x = Steps.charged();
        for (int grade = 1; grade <= 5; grade++) {
            Due.yes("leaf", x.card(0, -7, 99, grade));
            Due.is("its grade", grade, x.callKnown(0, x.take(0, 0, grade), 2));
        }
        Due.yes("question", x.card(0, 15, 0, 0));
        Due.no("node 16", x.card(16, 0, 0, 1));
        Due.no("grade 6", x.card(0, 0, 0, 6));
        Due.no("grade -1", x.card(0, 0, 0, -1));
        Due.no("yes 16", x.card(0, 16, 0, 0));
        Due.no("no 16", x.card(0, 0, 16, 0));
        for (int wrong : Steps.WRONG) {
            Due.no("node", x.card(wrong, 0, 0, 1));
            Due.no("question node", x.card(wrong, 0, 0, 0));
            Due.no("grade", x.card(0, 0, 0, wrong));
            Due.no("yes", x.card(0, wrong, 0, 0));
            Due.no("no", x.card(0, 0, wrong, 0));
        }
        int call = x.take(0, 0, 99);
        Due.is("a question gives no grade", 0, x.callKnown(0, call, 2));
        Due.is("no leads on", 0, x.answer(0, call, false));
        Due.is("the question as it was: node for no", 0, x.callKnown(0, call, 1));
        Due.is("yes leads to a leaf", 1, x.answer(0, call, true));
        Due.is("the question as it was: node for yes", 15, x.callKnown(0, call, 1));
    }

    private static void questions() {
        Due.on("questions");
        TwinRooms x = new TwinRooms();
        for (int n = 0; n < 15; n++) {
            x.card(n, n % 2 == 0 ? n + 1 : 15, n % 2 == 0 ? 15 : n + 1, 0);
        }
        for (int n = 0; n < 16; n++) {
            Due.is("questions(" + n + ")", 15 - n, x.questions(n));
        }
        x.card(7, 0, 0, 3);
        Due.is("questions(0)", 7, x.questions(0));
        x.card(7, 15, 15, 0);
        Due.is("questions(0)", 8, x.questions(0));
        x.card(0, 15, 2, 0);
        Due.is("the greatest number", 7, x.questions(0));
        x.card(0, 0, 0, 1);
        Due.is("a leaf again", 0, x.questions(0));
        Due.is("node 16", -1, x.questions(16));
        for (int wrong : Steps.WRONG) {
            Due.is("node", -1, x.questions(wrong));
        }
        backwards();
    }

    private static void backwards() {
        TwinRooms x = new TwinRooms();
        for (int n = 15; n > 0; n--) {
            x.card(n, 0, n - 1, 0);
        }
        Due.is("down all nodes", 15, x.questions(15));
    }

    private static void endlessQuestions() {
        Due.on("endless questions");
        TwinRooms x = new TwinRooms();
        x.card(4, 5, 1, 0);
        x.card(5, 2, 6, 0);
        x.card(6, 4, 3, 0);
        x.card(0, 1, 4, 0);
        x.card(7, 7, 1, 0);
        Due.is("on the round", -1, x.questions(4));
        Due.is("on the round", -1, x.questions(5));
        Due.is("on the round", -1, x.questions(6));
        Due.is("to the round", -1, x.questions(0));
        Due.is("to itself", -1, x.questions(7));
        Due.is("beside it", 0, x.questions(1));
        x.card(6, 0, 0, 2);
        Due.is("round opened", 3, x.questions(0));
        for (int n = 0; n < 16; n++) {
            x.card(n, (n + 1) % 16, (n + 1) % 16, 0);
        }
        for (int n = 0; n < 16; n++) {
            Due.is("all nodes in one round", -1, x.questions(n));
        }
    }
}
