import java.util.List;
import java.util.function.Consumer;
import java.util.function.Predicate;
import java.util.function.Supplier;
import java.util.function.ToIntFunction;
import java.util.function.ToLongFunction;

/** Calls on an object of a scene that answer as due and leave all that can be seen as it was. */
final class Refusals {
    private final Supplier<TwinRooms> scene;
    private final List<List<Long>> before;

    Refusals(Supplier<TwinRooms> scene) {
        this.scene = scene;
        before = Views.of(scene);
    }

    void no(String call, Predicate<TwinRooms> body) {
        leaves(call, 0, x -> body.test(x) ? 1 : 0);
    }

    void none(String call, ToIntFunction<TwinRooms> body) {
        leaves(call, TwinRooms.NONE, body::applyAsInt);
    }

    void answers(String call, int want, ToIntFunction<TwinRooms> body) {
        leaves(call, want, body::applyAsInt);
    }

    void argument(String call, Consumer<TwinRooms> body) {
        leaves(call, Due.ARGUMENT, x -> done(x, body));
    }

    void state(String call, Consumer<TwinRooms> body) {
        leaves(call, Due.STATE, x -> done(x, body));
    }

    private static long done(TwinRooms x, Consumer<TwinRooms> body) {
        body.accept(x);
        return 0;
    }

    private void leaves(String call, long want, ToLongFunction<TwinRooms> body) {
        TwinRooms x = scene.get();
        Due.is(call, want, Due.answerOf(() -> body.applyAsLong(x)));
        List<List<Long>> after = Views.of(() -> afterCall(body));
        for (int view = 0; view < before.size(); view++) {
            Due.yes(call + " changed something in view " + view + ": nothing",
                    before.get(view).equals(after.get(view)));
        }
    }

    private TwinRooms afterCall(ToLongFunction<TwinRooms> body) {
        TwinRooms x = scene.get();
        Due.answerOf(() -> body.applyAsLong(x));
        return x;
    }
}
