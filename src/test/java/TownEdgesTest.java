/** The boundary cases of promises 1 to 5 and 24: a new object, road, district, card, questions, eta. */
public final class TownEdgesTest {
    private static final int LEAST = Integer.MIN_VALUE;
    private static final int MOST = Integer.MAX_VALUE;
    private static final Refusals BUSY = new Refusals(Scenes::busy);

    public static void main(String[] args) {
        noRoadsAtFirst();
        oneDistrictAtFirst();
        leavesAtFirst();
        nothingElseAtFirst();
        roadSeconds();
        noSuchSeconds();
        roadJunctions();
        noSuchTwoJunctions();
        theSameJunction();
        zeroWhereNoneIs();
        thirtyOneRoads();
        roadsBothWays();
        districtBounds();
        noSuchDistrict();
        cardNodes();
        noSuchNode();
        cardGrades();
        noSuchGrade();
        noSuchYesOrNo();
        yesAndNoOfALeaf();
        questionsOfNodes();
        longestQuestions();
        endlessQuestions();
        etaBounds();
        noSuchEta();
        Due.end();
    }

    private static void noRoadsAtFirst() {
        Due.on("promise 1: no roads");
        TwinRooms x = new TwinRooms();
        for (int from = 0; from < 12; from++) {
            x.unit(0, from, 0);
            for (int to = 0; to < 12; to++) {
                Due.is("eta", from == to ? 0 : -1, x.eta(0, to));
            }
        }
    }

    private static void oneDistrictAtFirst() {
        Due.on("promise 1: one district");
        for (int junction = 0; junction < 12; junction++) {
            for (int district = 0; district < 4; district++) {
                TwinRooms x = new TwinRooms();
                Steps.charge(x, 1, district);
                int j = junction;
                if (district == 0) {
                    Due.is("take", 8, x.take(1, j, 0));
                } else {
                    Due.state("take", () -> x.take(1, j, 0));
                }
            }
        }
    }

    private static void leavesAtFirst() {
        Due.on("promise 1: leaves of grade 1");
        for (int node = 0; node < 16; node++) {
            TwinRooms x = Steps.charged();
            Due.is("questions", 0, x.questions(node));
            if (node == 0) {
                Due.is("grade", 1, x.callKnown(0, x.take(0, 0, 0), 2));
            } else {
                x.card(0, node, 0, 0);
                Due.is("grade", 1, x.answer(0, x.take(0, 0, 0), true));
            }
        }
    }

    private static void nothingElseAtFirst() {
        Due.on("promise 1: units, rooms, letters, time");
        TwinRooms x = new TwinRooms();
        for (int u = 0; u < 6; u++) {
            Steps.unitIs(x, u, 0, 0, -1, 0, 0, 0);
        }
        Due.is("letters", 0, x.letters());
        Due.is("time", 0, x.tick(0));
        for (int room = 0; room < 2; room++) {
            Due.no("mount", x.mount(room));
            Due.yes("crash", x.crash(room));
        }
        TwinRooms y = new TwinRooms();
        Steps.charge(y, 1, 3);
        Due.is("the first grant", 1, y.grantOf(1, 3));
    }

    private static void roadSeconds() {
        Due.on("promise 2: 1 .. 999 seconds, 0: it is gone");
        for (int seconds : Edges.inside(1, 999)) {
            TwinRooms x = new TwinRooms();
            Due.yes("road", x.road(0, 1, seconds));
            Due.is("eta", seconds, x.eta(0, 1));
            Due.yes("road", x.road(0, 1, 0));
            Due.is("eta", -1, x.eta(0, 1));
        }
    }

    private static void noSuchSeconds() {
        Due.on("promise 2: seconds that aren't 0 .. 999");
        for (int wrong : Edges.outside(0, 999)) {
            BUSY.no("new road, " + wrong, x -> x.road(7, 8, wrong));
            BUSY.no("a road that is, " + wrong, x -> x.road(0, 1, wrong));
        }
    }

    private static void roadJunctions() {
        Due.on("promise 2: junctions 0 .. 11");
        TwinRooms x = new TwinRooms();
        Due.yes("road(0, 11)", x.road(0, 11, 5));
        Due.yes("road(11, 0)", x.road(11, 0, 6));
        Due.is("eta", 5, x.eta(0, 11));
        x.unit(0, 11, 0);
        Due.is("eta", 6, x.eta(0, 0));
    }

    private static void noSuchTwoJunctions() {
        Due.on("promise 2: no such two junctions");
        for (int wrong : Edges.NO_JUNCTION) {
            for (int seconds : new int[] {0, 1, 999}) {
                BUSY.no("from " + wrong, x -> x.road(wrong, 1, seconds));
                BUSY.no("to " + wrong, x -> x.road(0, wrong, seconds));
            }
            BUSY.no("both " + wrong, x -> x.road(wrong, wrong, 5));
        }
    }

    private static void theSameJunction() {
        Due.on("promise 2: from and to the same");
        for (int j : Edges.inside(0, 11)) {
            for (int seconds : new int[] {0, 1, 999}) {
                BUSY.no("road(" + j + ", " + j + ", " + seconds + ")", x -> x.road(j, j, seconds));
            }
        }
    }

    private static void zeroWhereNoneIs() {
        Due.on("promise 2: 0 where none is: true");
        BUSY.answers("road(7, 8, 0)", 1, x -> x.road(7, 8, 0) ? 1 : 0);
        Refusals thirty = new Refusals(TownEdgesTest::thirtyRoads);
        thirty.answers("with 30 roads", 1, x -> x.road(11, 0, 0) ? 1 : 0);
        new Refusals(TwinRooms::new).answers("without roads", 1, x -> x.road(0, 11, 0) ? 1 : 0);
    }

    /** From 0, 1 and 2: of 33 roads the last three are missing. */
    private static TwinRooms roads(int count) {
        TwinRooms x = new TwinRooms();
        for (int k = 0; k < count; k++) {
            int from = k / 11;
            int to = k % 11 < from ? k % 11 : k % 11 + 1;
            Due.yes("road " + k, x.road(from, to, 10));
        }
        return x;
    }

    private static TwinRooms thirtyRoads() {
        return roads(30);
    }

    private static void thirtyOneRoads() {
        Due.on("promise 2: there would be 31");
        Due.yes("a 30th", roads(29).road(11, 0, 10));
        Refusals thirty = new Refusals(TownEdgesTest::thirtyRoads);
        thirty.no("a 31st of 1 second", x -> x.road(11, 0, 1));
        thirty.no("a 31st of 999 seconds", x -> x.road(11, 0, 999));
        thirty.no("a 31st, the way back", x -> x.road(11, 1, 10));
        TwinRooms x = thirtyRoads();
        Due.yes("other seconds of one of 30", x.road(0, 1, 999));
        Due.yes("the least seconds of one of 30", x.road(0, 2, 1));
        Due.no("31 still", x.road(11, 0, 10));
        Due.yes("one is gone", x.road(0, 1, 0));
        Due.yes("it is gone already", x.road(0, 1, 0));
        Due.yes("one of 1 second is gone", x.road(0, 2, 0));
        Due.yes("the 29th again, of 1 second", x.road(0, 2, 1));
        Due.yes("it has 999 now, and counts once", x.road(0, 2, 999));
        Due.yes("the 30th again", x.road(11, 0, 10));
        Due.no("31 again", x.road(0, 1, 10));
    }

    private static void roadsBothWays() {
        Due.on("terms: at most one each way between two");
        TwinRooms x = new TwinRooms();
        x.road(0, 1, 5);
        x.road(0, 1, 7);
        Due.is("the second replaces the first", 7, x.eta(0, 1));
        x.road(1, 0, 3);
        Due.is("the way back is another road", 7, x.eta(0, 1));
        x.road(0, 1, 0);
        x.unit(0, 1, 0);
        Due.is("and stays", 3, x.eta(0, 0));
        for (int k = 0; k < 60; k++) {
            Due.yes("it counts once", x.road(1, 0, 1 + k));
        }
    }

    private static void districtBounds() {
        Due.on("promise 3: junctions 0 .. 11, districts 0 .. 3");
        for (int j : Edges.inside(0, 11)) {
            for (int d : Edges.inside(0, 3)) {
                TwinRooms x = new TwinRooms();
                x.district(j, 3 - d);
                Due.yes("district", x.district(j, d));
                Steps.charge(x, 0, d);
                Due.is("take", 0, x.take(0, j, 0));
            }
        }
    }

    private static void noSuchDistrict() {
        Due.on("promise 3: no such ones");
        for (int wrong : Edges.NO_JUNCTION) {
            BUSY.no("junction " + wrong, x -> x.district(wrong, 3));
        }
        for (int wrong : Edges.NO_DISTRICT) {
            BUSY.no("district " + wrong, x -> x.district(3, wrong));
        }
        BUSY.no("neither", x -> x.district(12, 4));
    }

    private static void cardNodes() {
        Due.on("promise 4: nodes 0 .. 15");
        for (int node : Edges.inside(0, 15)) {
            TwinRooms x = new TwinRooms();
            Due.yes("question", x.card(node, 7, 7, 0));
            Due.is("questions", 1, x.questions(node));
            Due.yes("leaf", x.card(node, 7, 7, 2));
            Due.is("questions", 0, x.questions(node));
        }
        for (int other : Edges.inside(0, 15)) {
            TwinRooms x = new TwinRooms();
            x.card(other, 5, 5, 0);
            Due.yes("yes " + other, x.card(7, other, 3, 0));
            Due.is("questions", 2, x.questions(7));
            Due.yes("no " + other, x.card(7, 3, other, 0));
            Due.is("questions", 2, x.questions(7));
        }
    }

    private static void noSuchNode() {
        Due.on("promise 4: no such node");
        for (int wrong : Edges.NO_NODE) {
            BUSY.no("question " + wrong, x -> x.card(wrong, 1, 2, 0));
            BUSY.no("leaf " + wrong, x -> x.card(wrong, 1, 2, 4));
        }
    }

    private static void cardGrades() {
        Due.on("promise 4: grades 1 .. 5, 0 of a question");
        for (int grade : Edges.inside(1, 5)) {
            TwinRooms x = Steps.charged();
            Due.yes("leaf", x.card(0, 1, 2, grade));
            Due.is("its grade", grade, x.callKnown(0, x.take(0, 0, 0), 2));
        }
        TwinRooms x = Steps.charged();
        Due.yes("question", x.card(0, 1, 2, 0));
        Due.is("no grade", 0, x.callKnown(0, x.take(0, 0, 0), 2));
    }

    private static void noSuchGrade() {
        Due.on("promise 4: the grade isn't 0 .. 5");
        for (int wrong : Edges.outside(0, 5)) {
            BUSY.no("of a question, grade " + wrong, x -> x.card(0, 3, 3, wrong));
            BUSY.no("of a leaf, grade " + wrong, x -> x.card(1, 3, 3, wrong));
        }
    }

    private static void noSuchYesOrNo() {
        Due.on("promise 4: of a question, yes or no isn't a node");
        for (int wrong : Edges.NO_NODE) {
            BUSY.no("yes " + wrong, x -> x.card(0, wrong, 3, 0));
            BUSY.no("no " + wrong, x -> x.card(0, 3, wrong, 0));
            BUSY.no("both " + wrong, x -> x.card(1, wrong, wrong, 0));
        }
    }

    private static void yesAndNoOfALeaf() {
        Due.on("promise 4: of a leaf, yes and no mean nothing");
        for (int wrong : Edges.NO_NODE) {
            TwinRooms x = Steps.charged();
            x.card(0, 1, 2, 0);
            Due.yes("leaf", x.card(0, wrong, wrong, 3));
            Due.is("questions", 0, x.questions(0));
            Due.is("grade", 3, x.callKnown(0, x.take(0, 0, 0), 2));
        }
        BUSY.answers("the same leaf again", 1, x -> x.card(1, MOST, LEAST, 5) ? 1 : 0);
    }

    private static void questionsOfNodes() {
        Due.on("promise 5: no such node");
        for (int node : Edges.inside(0, 15)) {
            BUSY.answers("questions", node == 0 ? 2 : 0, x -> x.questions(node));
        }
        for (int wrong : Edges.NO_NODE) {
            BUSY.none("questions(" + wrong + ")", x -> x.questions(wrong));
        }
    }

    private static void longestQuestions() {
        Due.on("promise 5: 0 .. 15 questions");
        TwinRooms x = new TwinRooms();
        for (int n = 0; n < 15; n++) {
            Due.is("behind the last", 0, x.questions(n));
            for (int k = 0; k < n; k++) {
                Due.is("questions(" + k + ")", n - k, x.questions(k));
            }
            x.card(n, n + 1, 15, 0);
        }
        Due.is("all nodes but one leaf", 15, x.questions(0));
        x.card(15, 14, 14, 0);
        Due.is("without a leaf", -1, x.questions(0));
    }

    private static void endlessQuestions() {
        Due.on("promise 5: they need not end");
        for (boolean byYes : new boolean[] {true, false}) {
            TwinRooms x = new TwinRooms();
            x.card(15, byYes ? 15 : 3, byYes ? 3 : 15, 0);
            Due.is("to itself", -1, x.questions(15));
            x.card(0, byYes ? 15 : 3, byYes ? 3 : 15, 0);
            Due.is("to one that comes again", -1, x.questions(0));
            x.card(1, 3, 3, 0);
            Due.is("beside it", 1, x.questions(1));
            x.card(15, 0, 0, 1);
            Due.is("it ends now", 1, x.questions(0));
            x.card(15, byYes ? 0 : 3, byYes ? 3 : 0, 0);
            Due.is("two in a round", -1, x.questions(0));
            Due.is("two in a round", -1, x.questions(15));
        }
        TwinRooms x = new TwinRooms();
        for (int n = 0; n < 16; n++) {
            x.card(n, (n + 1) % 16, (n + 1) % 16, 0);
        }
        for (int n = 0; n < 16; n++) {
            Due.is("all in a round", -1, x.questions(n));
        }
    }

    private static void etaBounds() {
        Due.on("promise 24: units 0 .. 5, junctions 0 .. 11");
        for (int u : Edges.inside(0, 5)) {
            TwinRooms x = new TwinRooms();
            x.road(0, 11, 999);
            x.road(11, 0, 1);
            Due.is("eta", 999, x.eta(u, 11));
            Due.is("to itself", 0, x.eta(u, 0));
            x.unit(u, 11, 0);
            Due.is("eta", 1, x.eta(u, 0));
            Due.is("to itself", 0, x.eta(u, 11));
            Due.is("without a way", -1, x.eta(u, 10));
        }
    }

    private static void noSuchEta() {
        Due.on("promise 24: no such ones");
        for (int wrong : Edges.NO_UNIT) {
            BUSY.none("unit " + wrong, x -> x.eta(wrong, 0));
        }
        for (int wrong : Edges.NO_JUNCTION) {
            BUSY.none("junction " + wrong, x -> x.eta(5, wrong));
        }
        BUSY.answers("to itself", 0, x -> x.eta(5, 0));
        BUSY.answers("a way", 30, x -> x.eta(5, 1));
        BUSY.none("without a way", x -> x.eta(5, 2));
    }
}
