/** Steps that many tests begin with. */
final class Steps {
    static final int[] WRONG = {-1, -2, Integer.MIN_VALUE, Integer.MAX_VALUE, 100};

    private Steps() {
    }

    /** The room asks, and the two letters go through; other letters stay where they are. */
    static void charge(TwinRooms x, int room, int district) {
        x.ask(room, district);
        x.deliver(x.letters() - 1);
        int i = x.letters() - 1;
        while (i > 0 && x.letter(i, 0) != 1) {
            i--;
        }
        x.deliver(i);
    }

    /** An object whose room 0 is in charge of district 0. */
    static TwinRooms charged() {
        TwinRooms x = new TwinRooms();
        charge(x, 0, 0);
        return x;
    }

    static void loseAll(TwinRooms x) {
        for (int n = x.letters(); n > 0; n--) {
            x.lose(0);
        }
    }

    static void loseAllBut(TwinRooms x, int kind) {
        for (int i = x.letters() - 1; i >= 0; i--) {
            if (x.letter(i, 0) != kind) {
                x.lose(i);
            }
        }
    }

    /** Delivers what waits now, in order, not what is sent by that. */
    static void deliverNow(TwinRooms x) {
        for (int n = x.letters(); n > 0; n--) {
            x.deliver(0);
        }
    }

    /** The unit is set, reports, and both rooms take the report; no letter may wait before. */
    static void place(TwinRooms x, int unit, int junction, int skill) {
        x.unit(unit, junction, skill);
        x.status(unit, x.unitIs(unit, 0));
        deliverNow(x);
    }

    static void fill(TwinRooms x) {
        while (x.letters() < 48) {
            x.ask(0, 3);
        }
    }

    /** Kind, by whom, to whom, about what, number. */
    static void letterIs(TwinRooms x, int i, int... parts) {
        for (int what = 0; what < parts.length; what++) {
            Due.is("letter(" + i + ", " + what + ")", parts[what], x.letter(i, what));
        }
    }

    /** What who knows of a call, from part 0 on. */
    static void callIs(TwinRooms x, int who, int call, int... parts) {
        for (int what = 0; what < parts.length; what++) {
            Due.is("callKnown(" + who + ", " + call + ", " + what + ")", parts[what],
                    x.callKnown(who, call, what));
        }
    }

    static void unitIs(TwinRooms x, int unit, int... parts) {
        for (int what = 0; what < parts.length; what++) {
            Due.is("unitIs(" + unit + ", " + what + ")", parts[what], x.unitIs(unit, what));
        }
    }

    static void unitKnown(TwinRooms x, int room, int unit, int... parts) {
        for (int what = 0; what < parts.length; what++) {
            Due.is("unitKnown(" + room + ", " + unit + ", " + what + ")", parts[what],
                    x.unitKnown(room, unit, what));
        }
    }
}
