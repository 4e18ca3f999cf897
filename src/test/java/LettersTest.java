/** Promises 16 to 23: store, letters, letter, deliver, lose, twin, crash, mount. */
public final class LettersTest {

    public static void main(String[] args) {
        store();
        storeNewer();
        wrongStore();
        copies();
        copiesOfTheReferee();
        receipts();
        lettersInOrder();
        wrongLetters();
        fortyEightLetters();
        fullPostWhileDelivering();
        twins();
        letterKeepsItsRecord();
        crash();
        mount();
        catchUp();
        Due.end();
    }

    /** Room 0 is in charge of district 0 and has taken call 0 at junction 3; no letter waits. */
    private static TwinRooms taken() {
        TwinRooms x = Steps.charged();
        x.take(0, 3, 7);
        Steps.loseAll(x);
        return x;
    }

    private static void store() {
        Due.on("store");
        TwinRooms x = taken();
        x.store(0, 0);
        Due.is("letters", 1, x.letters());
        Steps.letterIs(x, 0, 4, 0, 2, 0, 1, -1);
        Due.is("not yet", -1, x.callKnown(2, 0, 0));
        x.deliver(0);
        Steps.callIs(x, 2, 0, 3, 0, 1, 0, -1, 0, 1, 1, 0, -1);
        Due.is("letters", 1, x.letters());
        Steps.letterIs(x, 0, 3, 2, 0, 0, 1, -1);
        Due.is("not SURE yet", 0, x.callKnown(0, 0, 8));
        x.deliver(0);
        Due.is("SURE", 1, x.callKnown(0, 0, 8));
        Due.is("not at the referee's", 0, x.callKnown(2, 0, 8));
        x.tick(40);
        x.store(0, 0);
        Due.is("without being in charge", 1, x.letters());
        Due.is("a STORE is no change", 1, x.callKnown(0, 0, 8));
    }

    private static void storeNewer() {
        Due.on("store of a newer record");
        TwinRooms x = taken();
        x.store(0, 0);
        x.take(0, 3, 7);
        x.store(0, 0);
        x.lose(1);
        x.twin(0);
        x.deliver(1);
        Due.is("changes", 2, x.callKnown(2, 0, 7));
        x.deliver(0);
        Due.is("an older one is not kept", 2, x.callKnown(2, 0, 7));
        Due.is("receipted all the same", 3, x.letters());
        Steps.letterIs(x, 2, 3, 2, 0, 0, 1);
        x.deliver(2);
        Due.is("another stamp", 0, x.callKnown(0, 0, 8));
        Steps.charge(x, 0, 0);
        x.close(0, 0);
        Steps.loseAll(x);
        x.store(0, 0);
        x.deliver(0);
        Steps.callIs(x, 2, 0, 3, 0, 1, 2, -1, 1, 2, 1, 0);
    }

    private static void wrongStore() {
        Due.on("wrong store");
        TwinRooms x = taken();
        Due.argumentOf("room 2", () -> x.store(2, 0));
        Due.argumentOf("call 16", () -> x.store(0, 16));
        Due.argumentOf("not known", () -> x.store(0, 1));
        Due.argumentOf("not known there", () -> x.store(1, 0));
        for (int wrong : Steps.WRONG) {
            Due.argumentOf("room", () -> x.store(wrong, 0));
            Due.argumentOf("call", () -> x.store(0, wrong));
        }
        x.crash(0);
        Due.stateOf("down", () -> x.store(0, 0));
        Due.argumentOf("down, not known", () -> x.store(0, 1));
        Due.is("letters", 0, x.letters());
    }

    private static void copies() {
        Due.on("copies");
        TwinRooms x = Steps.charged();
        x.card(0, 1, 1, 0);
        x.take(0, 3, 7);
        x.answer(0, 0, true);
        x.twin(0);
        Steps.letterIs(x, 1, 2, 0, 1, 0, 1, -1);
        x.deliver(1);
        Steps.callIs(x, 1, 0, 3, 1, 1, 0, -1, 0, 1, 2, 0, -1);
        Steps.letterIs(x, 2, 3, 1, 0, 0, 1, -1);
        x.deliver(0);
        Due.is("an older one is not taken", 2, x.callKnown(1, 0, 7));
        Due.is("receipted in any case", 3, x.letters());
        Steps.letterIs(x, 2, 3, 1, 0, 0, 1, -1);
        x.deliver(2);
        Due.is("the stamp of the older one", 0, x.callKnown(0, 0, 8));
        x.deliver(1);
        Due.is("the stamp of the newer one", 1, x.callKnown(0, 0, 8));
        Due.is("not SURE at the other one", 0, x.callKnown(1, 0, 8));
        hashGoesAlong();
        newerByGrant();
    }

    private static void hashGoesAlong() {
        TwinRooms x = Steps.charged();
        x.take(0, 3, 7);
        x.deliver(0);
        x.tick(42);
        Steps.charge(x, 1, 0);
        Due.is("the hash goes along", 100, x.take(1, 3, 7));
        Steps.callIs(x, 1, 0, 3, 0, 1, 0, -1, 1, 2, 1, 0);
        Due.is("another hash", 8, x.take(1, 3, 8));
    }

    private static void newerByGrant() {
        TwinRooms x = Steps.charged();
        for (int k = 0; k < 4; k++) {
            x.take(0, 3, 7);
        }
        x.deliver(3);
        Due.is("changes", 4, x.callKnown(1, 0, 7));
        Steps.loseAll(x);
        x.tick(42);
        Steps.charge(x, 1, 0);
        x.close(1, 0);
        x.deliver(0);
        Steps.callIs(x, 0, 0, 3, 0, 1, 2, -1, 3, 2, 1, 0);
    }

    private static void copiesOfTheReferee() {
        Due.on("copies of the referee");
        TwinRooms x = taken();
        x.store(0, 0);
        x.deliver(0);
        x.deliver(0);
        Due.is("SURE", 1, x.callKnown(0, 0, 8));
        x.ask(0, 0);
        x.deliver(0);
        x.deliver(1);
        Due.is("a copy that isn't newer", 1, x.callKnown(0, 0, 8));
        Due.is("not receipted", 1, x.letters());
        Steps.loseAll(x);
        x.tick(42);
        x.ask(1, 0);
        x.deliver(0);
        x.deliver(1);
        Steps.callIs(x, 1, 0, 3, 0, 1, 0, -1, 0, 1, 1, 0);
        Due.is("not receipted", 1, x.letters());
        x.deliver(0);
        x.take(1, 3, 7);
        x.store(1, 0);
        x.deliver(1);
        x.deliver(0);
        Due.is("a newer record is not SURE", 0, x.callKnown(0, 0, 8));
        Due.is("it is newer", 3, x.callKnown(0, 0, 6));
    }

    private static void receipts() {
        Due.on("receipts");
        TwinRooms x = taken();
        x.take(0, 3, 7);
        x.deliver(0);
        x.twin(0);
        x.deliver(0);
        Due.is("SURE", 1, x.callKnown(0, 0, 8));
        x.twin(0);
        x.close(0, 0);
        Due.is("a change", 0, x.callKnown(0, 0, 8));
        x.deliver(0);
        Due.is("an old stamp", 0, x.callKnown(0, 0, 8));
        Steps.charge(x, 0, 0);
        x.lose(1);
        x.take(0, 4, 9);
        x.take(0, 4, 9);
        x.deliver(x.letters() - 1);
        x.deliver(x.letters() - 1);
        Due.is("changes alike, another call", 0, x.callKnown(0, 0, 8));
        Due.is("the call of the receipt", 1, x.callKnown(0, 1, 8));
        sameChangesOtherGrant();
    }

    private static void sameChangesOtherGrant() {
        TwinRooms x = taken();
        x.store(0, 0);
        x.deliver(0);
        Steps.charge(x, 0, 0);
        x.close(0, 0);
        Due.is("changes", 1, x.callKnown(0, 0, 7));
        x.deliver(0);
        Due.is("another grant number", 0, x.callKnown(0, 0, 8));
    }

    private static void lettersInOrder() {
        Due.on("letters in order");
        TwinRooms x = new TwinRooms();
        for (int d = 0; d < 4; d++) {
            x.ask(0, d);
        }
        Due.is("letters", 4, x.letters());
        Due.yes("lose", x.lose(1));
        Due.is("letters", 3, x.letters());
        Due.is("moved up", 2, x.letter(1, 3));
        Due.is("moved up", 3, x.letter(2, 3));
        x.ask(1, 1);
        Steps.letterIs(x, 3, 0, 1, 2, 1, 0);
        Due.yes("deliver", x.deliver(0));
        Due.is("letters", 4, x.letters());
        Due.is("moved up", 2, x.letter(0, 3));
        Steps.letterIs(x, 3, 1, 2, 0, 0, 1);
        Due.yes("lose the last", x.lose(3));
        Due.is("letters", 3, x.letters());
        Due.is("a lost grant", 0, x.grantOf(0, 0));
    }

    private static void wrongLetters() {
        Due.on("wrong letters");
        TwinRooms x = new TwinRooms();
        Due.no("deliver", x.deliver(0));
        Due.no("lose", x.lose(0));
        Due.no("twin", x.twin(0));
        Due.is("letter", -1, x.letter(0, 0));
        x.ask(0, 0);
        for (int i = 1; i < 60; i++) {
            Due.no("deliver", x.deliver(i));
            Due.no("lose", x.lose(i));
            Due.no("twin", x.twin(i));
            Due.is("letter", -1, x.letter(i, 0));
        }
        Due.is("what 5", -1, x.letter(0, 5));
        for (int wrong : Steps.WRONG) {
            Due.no("deliver", x.deliver(wrong));
            Due.no("lose", x.lose(wrong));
            Due.no("twin", x.twin(wrong));
            Due.is("letter", -1, x.letter(wrong, 0));
            Due.is("what", -1, x.letter(0, wrong));
        }
        Due.is("letters", 1, x.letters());
    }

    private static void fortyEightLetters() {
        Due.on("48 letters");
        TwinRooms x = new TwinRooms();
        x.ask(1, 1);
        for (int k = 1; k < 47; k++) {
            Due.yes("twin", x.twin(0));
        }
        x.status(0, 0);
        Due.is("letters", 48, x.letters());
        Steps.letterIs(x, 47, 6, 3, 0, 0, 1);
        Due.no("twin", x.twin(0));
        x.ask(0, 0);
        x.status(1, 0);
        Due.is("its serial goes up", 1, x.unitIs(1, 4));
        x.crash(1);
        Due.yes("mount", x.mount(1));
        Due.is("letters", 48, x.letters());
        Steps.letterIs(x, 47, 6, 3, 0, 0, 1);
        x.lose(0);
        x.ask(0, 3);
        Steps.letterIs(x, 46, 6, 3, 0, 0, 1);
        Steps.letterIs(x, 47, 0, 0, 2, 3, 0);
        Due.no("twin", x.twin(0));
        x.lose(47);
        Due.yes("twin", x.twin(46));
        Steps.letterIs(x, 47, 6, 3, 0, 0, 1);
        Due.no("letter 48", x.deliver(48));
    }

    /** A letter that is delivered waits no more: there is room for one that is sent by that. */
    private static void fullPostWhileDelivering() {
        Due.on("full post while delivering");
        TwinRooms x = Steps.charged();
        x.take(0, 3, 7);
        x.take(0, 4, 8);
        x.store(0, 0);
        x.store(0, 1);
        Steps.deliverNow(x);
        Steps.loseAll(x);
        x.ask(0, 0);
        Steps.fill(x);
        x.deliver(0);
        Due.is("letters", 48, x.letters());
        Steps.letterIs(x, 47, 1, 2, 0, 0, 2);
        x.deliver(47);
        Due.is("taken", 2, x.grantOf(0, 0));
        x.lose(0);
        x.ask(0, 0);
        x.deliver(46);
        Due.is("letters", 48, x.letters());
        Steps.letterIs(x, 46, 1, 2, 0, 0, 3);
        Steps.letterIs(x, 47, 2, 2, 0, 0, 1);
    }

    private static void twins() {
        Due.on("twins");
        TwinRooms x = Steps.charged();
        Steps.place(x, 2, 0, 0);
        x.card(0, 1, 1, 0);
        x.card(1, 0, 0, 2);
        x.take(0, 0, 7);
        x.order(0, 0);
        x.answer(0, 0, false);
        x.store(0, 0);
        x.ask(0, 0);
        x.status(2, 3);
        int n = x.letters();
        for (int i = 0; i < n; i++) {
            Due.yes("twin", x.twin(i));
            for (int what = 0; what < 5; what++) {
                Due.is("twin of " + i, x.letter(i, what), x.letter(n + i, what));
            }
        }
        Due.is("letters", 2 * n, x.letters());
        twinOfEachKind();
    }

    private static void twinOfEachKind() {
        TwinRooms x = new TwinRooms();
        x.tick(3);
        x.ask(0, 0);
        twinAndLose(x);
        x.deliver(0);
        twinAndLose(x);
        x.tick(39);
        x.deliver(0);
        Due.is("twin of GRANT: its clock", 1, x.grantOf(0, 0));
        x.tick(1);
        Due.is("twin of GRANT: its clock", 0, x.grantOf(0, 0));
        Steps.charge(x, 0, 0);
        x.road(5, 6, 1);
        x.unit(2, 5, 0);
        x.status(2, 0);
        x.lose(1);
        twinAndLose(x);
        x.deliver(0);
        Steps.unitKnown(x, 0, 2, 0, 5, -1, 1, 0);
        x.take(0, 6, 9);
        twinAndLose(x);
        x.deliver(0);
        Steps.callIs(x, 1, 0, 6, 0, 1, 0, -1, 0, 2, 1, 0);
        twinAndLose(x);
        x.deliver(0);
        Due.is("twin of RECEIPT", 1, x.callKnown(0, 0, 8));
        x.order(0, 0);
        x.lose(1);
        twinAndLose(x);
        x.deliver(0);
        Steps.unitIs(x, 2, 1, 5, 0, 2, 2, 0);
        x.lose(1);
        twinAndLose(x);
        x.deliver(0);
        Steps.unitKnown(x, 0, 2, 1, 5, 0, 2, 1);
        x.status(2, 2);
        Due.is("twin of ORDER: its junction", 6, x.unitIs(2, 1));
        Steps.loseAll(x);
        x.store(0, 0);
        twinAndLose(x);
        x.deliver(0);
        Steps.callIs(x, 2, 0, 6, 0, 1, 1, 2, 0, 2, 2, 0);
        Steps.loseAll(x);
        x.crash(1);
        x.mount(1);
        twinAndLose(x);
        x.deliver(0);
        Steps.letterIs(x, 0, 2, 0, 1, 0, 2);
    }

    /** The one letter that waits is the twin then. */
    private static void twinAndLose(TwinRooms x) {
        Due.is("one letter", 1, x.letters());
        x.twin(0);
        x.lose(0);
    }

    private static void letterKeepsItsRecord() {
        Due.on("a letter keeps its record");
        TwinRooms x = taken();
        x.store(0, 0);
        x.twin(0);
        x.close(0, 0);
        x.deliver(0);
        Steps.callIs(x, 2, 0, 3, 0, 1, 0, -1, 0, 1, 1, 0);
        Steps.loseAll(x);
        x.store(0, 0);
        x.deliver(0);
        Steps.callIs(x, 2, 0, 3, 0, 1, 2, -1, 0, 1, 2, 0);
        TwinRooms y = Steps.charged();
        y.status(0, 0);
        y.unit(0, 9, 1);
        y.status(0, 3);
        y.deliver(0);
        Steps.unitKnown(y, 0, 0, 0, 0, -1, 1, 0);
    }

    private static void crash() {
        Due.on("crash");
        TwinRooms x = taken();
        Steps.place(x, 0, 0, 0);
        x.store(0, 0);
        x.deliver(0);
        x.twin(0);
        x.deliver(0);
        x.take(0, 5, 1);
        x.status(1, 0);
        int waiting = x.letters();
        Due.is("SURE", 1, x.callKnown(0, 0, 8));
        Due.yes("crash", x.crash(0));
        Due.no("again", x.crash(0));
        Due.is("letters wait still", waiting, x.letters());
        Due.is("no grant", 0, x.grantOf(0, 0));
        Steps.callIs(x, 0, 0, 3, 0, 1, 0, -1, 0, 1, 1, 0);
        Steps.unitKnown(x, 0, 0, -1, -1, -1, -1);
        Due.is("the other room", 0, x.unitKnown(1, 0, 0));
        Due.yes("delivered to a room that is down", x.deliver(0));
        Due.is("lost: not SURE", 0, x.callKnown(0, 0, 8));
        Due.yes("what it sent goes on", x.deliver(0));
        Due.is("known", 5, x.callKnown(1, 1, 0));
        Due.is("letters", waiting - 1, x.letters());
        Due.yes("crash of both", x.crash(1));
        Steps.deliverNow(x);
        Due.is("all lost", 0, x.letters());
        Due.no("room 2", x.crash(2));
        for (int wrong : Steps.WRONG) {
            Due.no("room", x.crash(wrong));
            Due.no("room", x.mount(wrong));
        }
    }

    private static void mount() {
        Due.on("mount");
        TwinRooms x = taken();
        Due.no("up", x.mount(0));
        x.crash(0);
        Due.no("the other one is up", x.mount(1));
        Due.no("room 2", x.mount(2));
        Due.yes("mount", x.mount(0));
        Due.no("again", x.mount(0));
        Due.is("letters", 1, x.letters());
        Steps.letterIs(x, 0, 7, 0, 1, -1, 0, -1);
        Due.is("no grant", 0, x.grantOf(0, 0));
        Due.is("its record", 3, x.callKnown(0, 0, 0));
        Steps.charge(x, 0, 0);
        Due.is("its numbers go on", 1, x.take(0, 4, 7));
        Due.yes("crash", x.crash(1));
        Due.yes("mount", x.mount(1));
        Steps.letterIs(x, x.letters() - 1, 7, 1, 0, -1, 0, -1);
    }

    private static void catchUp() {
        Due.on("catch up");
        TwinRooms x = Steps.charged();
        x.district(9, 1);
        Steps.charge(x, 1, 1);
        Steps.place(x, 0, 0, 0);
        x.take(1, 9, 1);
        x.deliver(0);
        Steps.loseAll(x);
        x.take(0, 3, 2);
        x.take(0, 4, 3);
        x.close(0, 1);
        Steps.loseAll(x);
        x.crash(1);
        x.mount(1);
        x.twin(0);
        x.deliver(0);
        Due.is("letters", 4, x.letters());
        Steps.letterIs(x, 1, 2, 0, 1, 0, 1);
        Steps.letterIs(x, 2, 2, 0, 1, 1, 1);
        Steps.letterIs(x, 3, 2, 0, 1, 8, 2);
        x.crash(0);
        x.deliver(0);
        Due.is("lost in a room that is down", 3, x.letters());
        Steps.deliverNow(x);
        Due.is("each is receipted", 3, x.letters());
        Steps.letterIs(x, 2, 3, 1, 0, 8, 2);
        Steps.callIs(x, 1, 1, 4, 0, 1, 2, -1, 0, 1, 2, 0);
        Due.is("no reports", -1, x.unitKnown(1, 0, 0));
        nothingToCatchUp();
    }

    private static void nothingToCatchUp() {
        TwinRooms x = new TwinRooms();
        x.crash(0);
        x.mount(0);
        x.deliver(0);
        Due.is("nothing known: no letters", 0, x.letters());
    }
}
