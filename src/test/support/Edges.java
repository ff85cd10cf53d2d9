import java.util.function.Supplier;

/** Ranges of parameters: each value within is taken, each beyond either end is refused. */
final class Edges {
    private Edges() {
    }

    interface Call {
        long answer(DirtyTiles x, int value);
    }

    interface Due {
        long at(int value);
    }

    /** Every value is tried on a new scene. */
    static void range(int least, int most, Supplier<DirtyTiles> scene, Call call, Due due) {
        for (int value = least; value <= most; value++) {
            int v = value;
            DirtyTiles x = scene.get();
            Check.due("with " + v, due.at(v), () -> call.answer(x, v));
        }
        refused(least, most, scene, call);
    }

    static void refused(int least, int most, Supplier<DirtyTiles> scene, Call call) {
        int[] beyond = {least - 1, most + 1, Integer.MIN_VALUE, Integer.MAX_VALUE};
        for (int value : beyond) {
            DirtyTiles x = scene.get();
            Check.thrown("with " + value, Check.ARGUMENT, () -> call.answer(x, value));
        }
    }
}
