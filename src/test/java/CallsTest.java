/** Promises 12, 13, 15 and 28: take, answer, close, callKnown; a CHANGE. */
public final class CallsTest {

    public static void main(String[] args) {
        take();
        takeAsAQuestion();
        wrongTake();
        eightCalls();
        linking();
        linkingIsOneWay();
        whichIsLinked();
        linkingInAnotherDistrict();
        linkingAcrossRooms();
        answer();
        answerOnAChangedCard();
        wrongAnswer();
        close();
        wrongClose();
        changesUnderANewGrant();
        lowerGrantOfAnotherDistrict();
        wrongCallKnown();
        Due.end();
    }

    private static void take() {
        Due.on("take");
        TwinRooms x = Steps.charged();
        x.card(0, 0, 0, 4);
        Due.is("take", 0, x.take(0, 6, 77));
        Steps.callIs(x, 0, 0, 6, 0, 4, 0, -1, 0, 1, 1, 0, -1);
        Steps.callIs(x, 1, 0, -1);
        Steps.callIs(x, 2, 0, -1);
        Due.is("letters", 1, x.letters());
        Steps.letterIs(x, 0, 2, 0, 1, 0, 1);
        Due.is("take", 1, x.take(0, 6, -77));
        Steps.charge(x, 1, 1);
        x.district(6, 1);
        Due.is("room 1's numbers", 8, x.take(1, 6, Integer.MIN_VALUE));
        Due.is("room 1's numbers", 9, x.take(1, 6, Integer.MAX_VALUE));
        Steps.callIs(x, 1, 8, 6, 0, 4, 0, -1, 0, 2, 1, 0, -1);
        Steps.letterIs(x, 2, 2, 1, 0, 8, 2);
    }

    private static void takeAsAQuestion() {
        Due.on("take as a question");
        TwinRooms x = Steps.charged();
        x.card(0, 1, 2, 0);
        x.take(0, 1, 0);
        Steps.callIs(x, 0, 0, 1, 0, 0, 0, -1, 0, 1, 1, 0);
        x.card(0, 1, 2, 3);
        Due.is("its grade stays none", 0, x.callKnown(0, 0, 2));
    }

    private static void wrongTake() {
        Due.on("wrong take");
        TwinRooms x = Steps.charged();
        Due.argument("room 2", () -> x.take(2, 0, 0));
        Due.argument("junction 12", () -> x.take(0, 12, 0));
        Due.argument("not in charge, junction 12", () -> x.take(1, 12, 0));
        for (int wrong : Steps.WRONG) {
            Due.argument("room", () -> x.take(wrong, 0, 0));
            Due.argument("junction", () -> x.take(0, wrong, 0));
        }
        Due.state("not in charge", () -> x.take(1, 0, 0));
        x.tick(39);
        Due.is("in charge still", 0, x.take(0, 0, 0));
        x.tick(1);
        Due.state("in charge no more", () -> x.take(0, 0, 0));
        Due.is("nothing linked", 0, x.callKnown(0, 0, 5));
        x.crash(0);
        Due.state("down", () -> x.take(0, 0, 0));
        Due.argument("down, junction 12", () -> x.take(0, 12, 0));
    }

    private static void eightCalls() {
        Due.on("eight calls");
        TwinRooms x = Steps.charged();
        for (int k = 0; k < 7; k++) {
            x.take(0, 0, k);
        }
        Due.is("linked ones do not count", 106, x.take(0, 0, 6));
        Due.is("the eighth", 7, x.take(0, 0, 7));
        Due.state("a ninth", () -> x.take(0, 0, 8));
        Due.state("one that would be linked", () -> x.take(0, 0, 7));
        Due.is("not linked", 0, x.callKnown(0, 7, 5));
        Due.argument("junction 12", () -> x.take(0, 12, 0));
        x.close(0, 0);
        Due.state("one CLOSED", () -> x.take(0, 0, 8));
        x.crash(0);
        x.mount(0);
        Steps.charge(x, 0, 0);
        Due.state("after it was down", () -> x.take(0, 0, 8));
    }

    private static void linking() {
        Due.on("linking");
        TwinRooms x = Steps.charged();
        x.road(1, 0, 60);
        x.take(0, 1, 7);
        Steps.loseAll(x);
        Due.is("60 seconds", 100, x.take(0, 0, 7));
        Steps.callIs(x, 0, 0, 1, 0, 1, 0, -1, 1, 1, 2, 0);
        Steps.letterIs(x, 0, 2, 0, 1, 0, 1);
        Due.is("letters", 1, x.letters());
        Due.is("the same junction", 100, x.take(0, 1, 7));
        Due.is("another hash", 1, x.take(0, 1, 8));
        Due.is("no way", 2, x.take(0, 3, 7));
        x.road(1, 0, 61);
        Due.is("61 seconds", 3, x.take(0, 0, 7));
        x.close(0, 0);
        Due.is("CLOSED", 4, x.take(0, 1, 7));
        Due.is("linked", 2, x.callKnown(0, 0, 5));
        Due.is("not CLOSED", 104, x.take(0, 1, 7));
        Steps.place(chargedAgain(x), 0, 1, 2);
        x.order(0, 4);
        Due.is("ORDERED", 104, x.take(0, 1, 7));
        Due.is("ORDERED still", 1, x.callKnown(0, 4, 3));
        Due.is("linked", 2, x.callKnown(0, 4, 5));
    }

    private static TwinRooms chargedAgain(TwinRooms x) {
        Steps.loseAll(x);
        Steps.charge(x, 0, 0);
        return x;
    }

    private static void linkingIsOneWay() {
        Due.on("linking is one way");
        TwinRooms x = Steps.charged();
        x.road(0, 1, 10);
        x.take(0, 1, 7);
        Due.is("a way from here to there alone", 1, x.take(0, 0, 7));
        x.road(1, 2, 30);
        x.road(2, 0, 30);
        Due.is("a way of two roads", 100, x.take(0, 0, 7));
        x.road(1, 2, 31);
        Due.is("call 1 is here", 101, x.take(0, 0, 7));
    }

    private static void whichIsLinked() {
        Due.on("which is linked");
        TwinRooms x = Steps.charged();
        x.take(0, 1, 7);
        x.take(0, 2, 7);
        x.take(0, 3, 7);
        x.road(2, 3, 50);
        Due.is("not the nearest, the least number", 101, x.take(0, 3, 7));
        Due.is("linked", 1, x.callKnown(0, 1, 5));
        Due.is("linked", 0, x.callKnown(0, 2, 5));
        x.road(1, 3, 60);
        Due.is("the least number", 100, x.take(0, 3, 7));
    }

    private static void linkingInAnotherDistrict() {
        Due.on("linking in another district");
        TwinRooms x = Steps.charged();
        x.road(1, 0, 5);
        x.take(0, 1, 7);
        Steps.loseAll(x);
        x.district(1, 2);
        Due.is("not in charge there", 100, x.take(0, 0, 7));
        Steps.callIs(x, 0, 0, 1, 0, 1, 0, -1, 0, 1, 1, 0);
        Due.is("nothing changes", 0, x.letters());
        Due.is("nor is there a new call", -1, x.callKnown(0, 1, 0));
        Steps.charge(x, 0, 2);
        Due.is("in charge there", 100, x.take(0, 0, 7));
        Steps.callIs(x, 0, 0, 1, 0, 1, 0, -1, 1, 2, 1, 0);
        Steps.letterIs(x, 0, 2, 0, 1, 0, 2);
    }

    private static void linkingAcrossRooms() {
        Due.on("linking across rooms");
        TwinRooms x = Steps.charged();
        x.district(1, 1);
        Steps.charge(x, 1, 1);
        x.road(0, 1, 5);
        x.take(0, 0, 7);
        Due.is("not known", 8, x.take(1, 1, 7));
        x.deliver(0);
        Due.is("the least number, not in charge", 100, x.take(1, 1, 7));
        Due.is("not linked", 0, x.callKnown(1, 0, 5));
        x.close(0, 0);
        Due.is("CLOSED, but not known", 100, x.take(1, 1, 7));
        Steps.deliverNow(x);
        Due.is("CLOSED", 2, x.callKnown(1, 0, 3));
        Due.is("its own", 108, x.take(1, 1, 7));
    }

    /** Call 0 begins at node 0: yes leads to question 1, no to a leaf of grade 2. */
    private static TwinRooms asked() {
        TwinRooms x = Steps.charged();
        x.card(0, 1, 2, 0);
        x.card(1, 0, 3, 0);
        x.card(2, 0, 0, 2);
        x.card(3, 0, 0, 5);
        x.take(0, 1, 7);
        Steps.loseAll(x);
        return x;
    }

    private static void answer() {
        Due.on("answer");
        TwinRooms x = asked();
        Due.is("yes", 0, x.answer(0, 0, true));
        Steps.callIs(x, 0, 0, 1, 1, 0, 0, -1, 0, 1, 2, 0);
        Steps.letterIs(x, 0, 2, 0, 1, 0, 1);
        Due.is("letters", 1, x.letters());
        Due.is("no", 5, x.answer(0, 0, false));
        Steps.callIs(x, 0, 0, 1, 3, 5, 0, -1, 0, 1, 3, 0);
        Due.is("letters", 2, x.letters());
        Due.state("it has a grade", () -> x.answer(0, 0, false));
        Steps.callIs(x, 0, 0, 1, 3, 5, 0, -1, 0, 1, 3, 0);
        TwinRooms y = asked();
        Due.is("no", 2, y.answer(0, 0, false));
        Due.is("node", 2, y.callKnown(0, 0, 1));
        TwinRooms z = asked();
        z.answer(0, 0, true);
        Due.is("round", 0, z.answer(0, 0, true));
        Due.is("node", 0, z.callKnown(0, 0, 1));
    }

    private static void answerOnAChangedCard() {
        Due.on("answer on a changed card");
        for (int k = 0; k < 2; k++) {
            TwinRooms x = asked();
            x.card(0, 1, 2, 4);
            Due.is("any answer takes the leaf's grade", 4, x.answer(0, 0, k == 0));
            Steps.callIs(x, 0, 0, 1, 0, 4, 0, -1, 0, 1, 2, 0);
        }
        TwinRooms x = asked();
        x.answer(0, 0, true);
        x.card(1, 9, 2, 0);
        Due.is("the node for yes now", 1, x.answer(0, 0, true));
        Due.is("node", 9, x.callKnown(0, 0, 1));
        x.card(9, 0, 0, 0);
        Due.state("its grade stays", () -> x.answer(0, 0, true));
    }

    private static void wrongAnswer() {
        Due.on("wrong answer");
        TwinRooms x = asked();
        Due.argument("room 2", () -> x.answer(2, 0, true));
        Due.argument("call 16", () -> x.answer(0, 16, true));
        Due.argument("not known", () -> x.answer(0, 1, true));
        Due.argument("not known there", () -> x.answer(1, 0, true));
        for (int wrong : Steps.WRONG) {
            Due.argument("room", () -> x.answer(wrong, 0, true));
            Due.argument("call", () -> x.answer(0, wrong, true));
        }
        x.tick(40);
        Due.state("not in charge", () -> x.answer(0, 0, true));
        Due.argument("not known, not in charge", () -> x.answer(0, 1, true));
        Steps.charge(x, 0, 0);
        x.close(0, 0);
        Due.state("CLOSED", () -> x.answer(0, 0, true));
        Due.is("node", 0, x.callKnown(0, 0, 1));
        x.crash(0);
        Due.state("down", () -> x.answer(0, 0, true));
    }

    private static void close() {
        Due.on("close");
        TwinRooms x = asked();
        x.close(0, 0);
        Steps.callIs(x, 0, 0, 1, 0, 0, 2, -1, 0, 1, 2, 0);
        Due.is("letters", 1, x.letters());
        Steps.letterIs(x, 0, 2, 0, 1, 0, 1);
        Steps.place(chargedAgain(x), 0, 1, 2);
        x.take(0, 1, 8);
        x.order(0, 1);
        x.close(0, 1);
        Due.is("ORDERED before", 2, x.callKnown(0, 1, 3));
        Due.is("its unit stays", 0, x.callKnown(0, 1, 4));
    }

    private static void wrongClose() {
        Due.on("wrong close");
        TwinRooms x = asked();
        Due.argumentOf("room 2", () -> x.close(2, 0));
        Due.argumentOf("call 16", () -> x.close(0, 16));
        Due.argumentOf("not known", () -> x.close(0, 1));
        Due.argumentOf("not known there", () -> x.close(1, 0));
        for (int wrong : Steps.WRONG) {
            Due.argumentOf("room", () -> x.close(wrong, 0));
            Due.argumentOf("call", () -> x.close(0, wrong));
        }
        x.tick(40);
        Due.stateOf("not in charge", () -> x.close(0, 0));
        Due.is("OPEN", 0, x.callKnown(0, 0, 3));
        Steps.charge(x, 0, 0);
        x.close(0, 0);
        Due.stateOf("CLOSED", () -> x.close(0, 0));
        Due.is("changes", 1, x.callKnown(0, 0, 7));
        x.crash(0);
        Due.stateOf("down", () -> x.close(0, 0));
    }

    private static void changesUnderANewGrant() {
        Due.on("changes under a new grant");
        TwinRooms x = asked();
        x.answer(0, 0, true);
        Due.is("changes", 2, x.callKnown(0, 0, 7));
        Steps.charge(x, 0, 0);
        Due.is("a grant alone changes nothing", 1, x.callKnown(0, 0, 6));
        x.answer(0, 0, true);
        Steps.callIs(x, 0, 0, 1, 0, 0, 0, -1, 0, 2, 1, 0);
        x.answer(0, 0, true);
        Steps.callIs(x, 0, 0, 1, 1, 0, 0, -1, 0, 2, 2, 0);
    }

    private static void lowerGrantOfAnotherDistrict() {
        Due.on("a lower grant of another district");
        TwinRooms x = Steps.charged();
        Steps.charge(x, 0, 1);
        x.district(5, 1);
        x.take(0, 5, 0);
        x.take(0, 5, 0);
        Steps.callIs(x, 0, 0, 5, 0, 1, 0, -1, 1, 2, 2);
        x.district(5, 0);
        x.take(0, 5, 0);
        Steps.callIs(x, 0, 0, 5, 0, 1, 0, -1, 2, 1, 1);
    }

    private static void wrongCallKnown() {
        Due.on("wrong callKnown");
        TwinRooms x = asked();
        x.store(0, 0);
        Steps.deliverNow(x);
        Steps.callIs(x, 2, 0, 1, 0, 0, 0, -1, 0, 1, 1, 0, -1);
        Due.is("who 3", -1, x.callKnown(3, 0, 0));
        for (int who = 0; who < 3; who++) {
            Due.is("call 16", -1, x.callKnown(who, 16, 0));
            Due.is("not known", -1, x.callKnown(who, 1, 8));
            Due.is("what 9", -1, x.callKnown(who, 0, 9));
            for (int wrong : Steps.WRONG) {
                Due.is("who", -1, x.callKnown(wrong, 0, 0));
                Due.is("call", -1, x.callKnown(who, wrong, 0));
                Due.is("what", -1, x.callKnown(who, 0, wrong));
            }
        }
    }
}
