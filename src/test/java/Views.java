import java.util.ArrayList;
import java.util.List;
import java.util.function.Supplier;

/**
 * All that can be seen of an object, also what only later calls show. Each view has a new object of
 * the scene, so that none is used for more than 512 calls.
 */
final class Views {
    private interface View {
        void look(TwinRooms x, List<Long> seen);
    }

    private static final List<View> ALL = all();

    private Views() {
    }

    static List<List<Long>> of(Supplier<TwinRooms> scene) {
        List<List<Long>> views = new ArrayList<>();
        for (View view : ALL) {
            List<Long> seen = new ArrayList<>();
            view.look(scene.get(), seen);
            views.add(seen);
        }
        return views;
    }

    private static List<View> all() {
        List<View> views = new ArrayList<>();
        views.add(Views::letters);
        views.add(Views::units);
        views.add(Views::nearest);
        views.add(Views::etas);
        views.add(Views::roadsLeft);
        views.add(Views::grants);
        for (int half = 0; half < 3; half++) {
            int first = 4 * half;
            views.add((x, seen) -> districts(x, first, seen));
            views.add(Views.afterAll((x, seen) -> districts(x, first, seen)));
        }
        for (int who = 0; who < 3; who++) {
            int w = who;
            views.add((x, seen) -> calls(x, w, seen));
            views.add(Views.afterAll((x, seen) -> calls(x, w, seen)));
        }
        for (int room = 0; room < 2; room++) {
            int r = room;
            views.add((x, seen) -> speeds(x, r, 49, seen));
            views.add((x, seen) -> speeds(x, r, 50, seen));
            views.add((x, seen) -> hashes(x, r, seen));
            for (int speed = 49; speed <= 51; speed++) {
                int other = speed;
                views.add((x, seen) -> lastSecond(x, r, other, seen));
            }
            views.add((x, seen) -> asks(x, r, seen));
        }
        for (int node = 0; node < 16; node++) {
            int n = node;
            views.add((x, seen) -> card(x, n, seen));
        }
        views.add(Views.afterAll(Views::letters));
        views.add(Views.afterAll(Views::units));
        views.add(Views.afterAll(Views::grants));
        return views;
    }

    /** The letters that wait are delivered before. */
    private static View afterAll(View view) {
        return (x, seen) -> {
            Steps.deliverNow(x);
            view.look(x, seen);
        };
    }

    private static void letters(TwinRooms x, List<Long> seen) {
        seen.add((long) x.letters());
        for (int i = 0; i < x.letters(); i++) {
            for (int what = 0; what < 5; what++) {
                seen.add((long) x.letter(i, what));
            }
        }
    }

    private static void units(TwinRooms x, List<Long> seen) {
        for (int u = 0; u < 6; u++) {
            for (int what = 0; what < 6; what++) {
                seen.add((long) x.unitIs(u, what));
            }
            for (int what = 0; what < 5; what++) {
                seen.add((long) x.unitKnown(0, u, what));
                seen.add((long) x.unitKnown(1, u, what));
            }
        }
    }

    private static void nearest(TwinRooms x, List<Long> seen) {
        for (int room = 0; room < 2; room++) {
            for (int junction = 0; junction < 4; junction++) {
                for (int i = 0; i < 6; i++) {
                    seen.add((long) x.nearest(room, 0, junction, i));
                    seen.add((long) x.nearest(room, 2, junction, i));
                }
            }
        }
    }

    /** Unit 5 goes round, if it may. */
    private static void etas(TwinRooms x, List<Long> seen) {
        for (int from = 0; from < 12; from++) {
            seen.add(x.unit(5, from, 0) ? 1L : 0L);
            for (int to = 0; to < 12; to++) {
                seen.add((long) x.eta(5, to));
            }
        }
    }

    private static void roadsLeft(TwinRooms x, List<Long> seen) {
        for (int from = 0; from < 12; from++) {
            for (int to = 0; to < 12; to++) {
                seen.add(x.road(from, to, 1) ? 1L : 0L);
            }
        }
    }

    private static void grants(TwinRooms x, List<Long> seen) {
        for (int second = 29; second < 44; second++) {
            // No grant of the scenes ends in the first 30 seconds, if nothing is wrong.
            seen.add(x.tick(second == 29 ? 0 : second == 30 ? 30 : 1));
            for (int d = 0; d < 3; d++) {
                seen.add((long) x.grantOf(0, d));
                seen.add((long) x.grantOf(1, d));
            }
        }
    }

    /** No letter waits, no district is anyone's, and the rooms are up. */
    private static void clear(TwinRooms x) {
        x.mount(0);
        x.mount(1);
        Steps.loseAll(x);
        x.tick(43);
    }

    /** Room 0 has another grant for each district: the number in a new call's stamp tells which. */
    private static void districts(TwinRooms x, int first, List<Long> seen) {
        clear(x);
        for (int d = 0; d < 4; d++) {
            Scenes.chargeLater(x, 0, d);
        }
        for (int junction = first; junction < first + 4; junction++) {
            int j = junction;
            long call = Due.answerOf(() -> x.take(0, j, 1000 + j));
            seen.add(call);
            seen.add((long) x.callKnown(0, (int) call, 6));
        }
    }

    private static void calls(TwinRooms x, int who, List<Long> seen) {
        for (int call = 0; call < 16; call++) {
            for (int what = 0; what < 9; what++) {
                seen.add((long) x.callKnown(who, call, what));
            }
        }
    }

    /** How long a grant lasts with this speed after 20 seconds with its own tells its own. */
    private static void speeds(TwinRooms x, int room, int other, List<Long> seen) {
        clear(x);
        Scenes.chargeLater(x, room, 3);
        x.tick(20);
        x.speed(room, other);
        for (int second = 0; second < 23; second++) {
            x.tick(1);
            seen.add((long) x.grantOf(room, 3));
        }
    }

    /** In the busy scene, room 0 is in charge for 1999, 2000 or 2001 of its clock by this. */
    private static void lastSecond(TwinRooms x, int room, int speed, List<Long> seen) {
        x.speed(room, 50);
        x.tick(37);
        x.speed(room, speed);
        x.tick(1);
        seen.add((long) x.grantOf(room, room));
    }

    private static void hashes(TwinRooms x, int room, List<Long> seen) {
        clear(x);
        Scenes.chargeLater(x, room, 0);
        Scenes.chargeLater(x, room, 1);
        for (int hash = 7; hash < 10; hash++) {
            for (int junction = 0; junction < 4; junction++) {
                int h = hash;
                int j = junction;
                seen.add(Due.answerOf(() -> x.take(room, j, h)));
            }
        }
    }

    /** When the referee grants to the room. */
    private static void asks(TwinRooms x, int room, List<Long> seen) {
        x.mount(room);
        Steps.loseAll(x);
        for (int second = 0; second < 49; second += 7) {
            for (int d = 0; d < 3; d++) {
                x.ask(room, d);
                x.deliver(0);
                seen.add((long) x.letter(0, 4));
                Steps.loseAll(x);
            }
            x.tick(7);
        }
    }

    /** Two calls are led to the node, and on from there by yes and by no. */
    private static void card(TwinRooms x, int node, List<Long> seen) {
        seen.add((long) x.questions(node));
        clear(x);
        x.district(11, 0);
        Scenes.chargeLater(x, 0, 0);
        if (node > 0) {
            x.card(0, node, node, 0);
        }
        for (int k = 0; k < 2; k++) {
            int hash = 2000 + k;
            boolean yes = k == 0;
            int call = (int) Due.answerOf(() -> x.take(0, 11, hash));
            if (node > 0) {
                seen.add(Due.answerOf(() -> x.answer(0, call, yes)));
            }
            seen.add(Due.answerOf(() -> x.answer(0, call, yes)));
            seen.add((long) x.callKnown(0, call, 1));
            seen.add((long) x.callKnown(0, call, 2));
        }
    }
}
