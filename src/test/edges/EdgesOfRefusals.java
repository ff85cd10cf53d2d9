import java.util.function.Supplier;

/** Terms, at their edges: a call that throws changes nothing, and which exception it throws. */
final class EdgesOfRefusals {
    private static final String TERMS = "Terms";
    private static final int LEAST = Integer.MIN_VALUE;
    private static final int MOST = Integer.MAX_VALUE;

    private EdgesOfRefusals() {
    }

    private interface OnServer {
        long answer(DirtyTiles x);
    }

    private record Refused(String what, String thrown, OnServer call) {
    }

    static void look() {
        wrongParametersChangeNothing();
        notJoinedChangesNothing();
        messageOnItsWayChangesNothing();
        theFirstOfSeveralExceptions();
    }

    /** Something is drawn, nobody has joined. */
    private static DirtyTiles nobody() {
        DirtyTiles x = new DirtyTiles();
        x.fill(3, 2, 6, 7, 9);
        x.copy(2, 2, 4, 4, 9, 5);
        return x;
    }

    /** Client 0 has a message on its way, client 1 has none; tiles are dirty for both. */
    private static DirtyTiles busy() {
        DirtyTiles x = nobody();
        x.join(0);
        x.join(1);
        x.ask(0, 40);
        x.answer(0);
        x.ask(1, 300);
        x.answer(1);
        x.fill(6, 6, 3, 3, 4);
        x.fill(15, 11, 1, 1, 5);
        x.ask(0, 25);
        x.fill(0, 0, 2, 9, 2);
        return x;
    }

    private static void wrongParametersChangeNothing() {
        Sentences.of(TERMS, "A method that throws an exception changes nothing.");
        Refused[] all = {
            argument("fill, column", x -> x.fill(16, 0, 1, 1, 1)),
            argument("fill, row", x -> x.fill(0, 12, 1, 1, 1)),
            argument("fill, wide", x -> x.fill(1, 1, 16, 1, 1)),
            argument("fill, high", x -> x.fill(1, 1, 1, 12, 1)),
            argument("fill, colour", x -> x.fill(0, 0, 16, 12, 16)),
            argument("fill, colour below", x -> x.fill(0, 0, 16, 12, -1)),
            argument("copy, column", x -> x.copy(-1, 0, 9, 9, 5, 5)),
            argument("copy, row", x -> x.copy(0, -1, 9, 9, 5, 5)),
            argument("copy, wide", x -> x.copy(9, 0, 8, 9, -5, 1)),
            argument("copy, high", x -> x.copy(0, 6, 9, 7, 1, -5)),
            argument("copy, right", x -> x.copy(0, 0, 16, 12, 16, 0)),
            argument("copy, down", x -> x.copy(0, 0, 16, 12, 1, 12)),
            argument("colour", x -> x.colour(16, 0)),
            argument("colours", x -> x.colours(12)),
            argument("runs", x -> x.runs(-1)),
            argument("way, client", x -> x.way(2, 0)),
            argument("way, tile", x -> x.way(0, 12)),
            argument("join", x -> x.join(2)),
            argument("join below", x -> x.join(-1)),
            argument("ask, client", x -> x.ask(2, 300)),
            argument("ask, budget", x -> x.ask(1, 301)),
            argument("ask, budget below", x -> x.ask(1, -1)),
            argument("answer", x -> x.answer(2)),
            argument("answer below", x -> x.answer(-1)),
            argument("shown, client", x -> x.shown(-1, 0, 0)),
            argument("shown, column", x -> x.shown(0, 16, 0)),
            argument("shown, row", x -> x.shown(0, 0, 12)),
            argument("unlike", x -> x.unlike(2)),
            argument("dirty", x -> x.dirty(2)),
            argument("dirtyAt", x -> x.dirtyAt(2, 0)),
            argument("cached", x -> x.cached(2)),
            argument("isAlike", x -> x.isAlike(2) ? 1 : 0),
            argument("written", x -> x.written(5)),
            argument("written below", x -> x.written(-1)),
        };
        changeNothing(EdgesOfRefusals::nobody, all);
        changeNothing(EdgesOfRefusals::busy, all);
    }

    private static void notJoinedChangesNothing() {
        Sentences.of(TERMS, "A method that throws an exception changes nothing.");
        for (int client = 0; client < 2; client++) {
            int c = client;
            changeNothing(EdgesOfRefusals::nobody,
                    state("way", x -> x.way(c, 0)), state("ask", x -> x.ask(c, 300)),
                    state("answer", x -> x.answer(c)), state("shown", x -> x.shown(c, 0, 0)),
                    state("unlike", x -> x.unlike(c)), state("dirty", x -> x.dirty(c)),
                    state("dirtyAt", x -> x.dirtyAt(c, 0)), state("cached", x -> x.cached(c)),
                    state("isAlike", x -> x.isAlike(c) ? 1 : 0));
        }
    }

    private static void messageOnItsWayChangesNothing() {
        Sentences.of(TERMS, "A method that throws an exception changes nothing.");
        changeNothing(EdgesOfRefusals::busy,
                state("ask with a message", x -> x.ask(0, 300)),
                state("ask with a message", x -> x.ask(0, 0)),
                state("answer without one", x -> x.answer(1)),
                new Refused("dirtyAt beyond", Check.INDEX, x -> x.dirtyAt(0, 12)),
                new Refused("dirtyAt below", Check.INDEX, x -> x.dirtyAt(1, -1)));
    }

    private static Refused argument(String what, OnServer call) {
        return new Refused(what, Check.ARGUMENT, call);
    }

    private static Refused state(String what, OnServer call) {
        return new Refused(what, Check.STATE, call);
    }

    private static void changeNothing(Supplier<DirtyTiles> scene, Refused... calls) {
        for (int client = 0; client < 2; client++) {
            for (int answers = 0; answers < 2; answers++) {
                String want = all(scene.get(), client, answers == 1);
                for (Refused each : calls) {
                    DirtyTiles x = scene.get();
                    Check.thrown(each.what(), each.thrown(), () -> each.call().answer(x));
                    Check.same("all the calls after " + each.what(), want,
                            all(x, client, answers == 1));
                }
            }
        }
    }

    /** What every call answers, for one client: fewer than 512 calls in all. */
    private static String all(DirtyTiles x, int client, boolean answersFirst) {
        StringBuilder found = new StringBuilder();
        if (answersFirst) {
            found.append(Check.outcome(() -> x.answer(client))).append(' ');
        }
        for (int cell = 0; cell < 192; cell++) {
            int column = cell % 16;
            int row = cell / 16;
            found.append(Check.outcome(() -> x.colour(column, row))).append(' ');
            found.append(Check.outcome(() -> x.shown(client, column, row))).append(' ');
        }
        for (int number = 0; number < 12; number++) {
            int n = number;
            found.append(Check.outcome(() -> x.colours(n))).append(' ');
            found.append(Check.outcome(() -> x.runs(n))).append(' ');
            found.append(Check.outcome(() -> x.way(client, n))).append(' ');
            found.append(Check.outcome(() -> x.dirtyAt(client, n))).append(' ');
        }
        for (int way = 0; way < 5; way++) {
            int w = way;
            found.append(Check.outcome(() -> x.written(w))).append(' ');
        }
        found.append(Check.outcome(() -> x.units())).append(' ');
        found.append(Check.outcome(() -> x.unlike(client))).append(' ');
        found.append(Check.outcome(() -> x.dirty(client))).append(' ');
        found.append(Check.outcome(() -> x.cached(client))).append(' ');
        found.append(Check.outcome(() -> x.isAlike(client) ? 1 : 0)).append(' ');
        found.append(Check.outcome(() -> x.ask(client, 300))).append(' ');
        found.append(Check.outcome(() -> x.answer(client))).append(' ');
        found.append(Check.outcome(() -> x.unlike(client))).append(' ');
        found.append(Check.outcome(() -> x.units()));
        return found.toString();
    }

    private static void theFirstOfSeveralExceptions() {
        Sentences.of(TERMS, "If several exceptions apply, the one that is documented first is "
                + "thrown.");
        int[] clients = {-1, 2, LEAST, MOST};
        DirtyTiles x = nobody();
        for (int client : clients) {
            Check.thrown("client of way and its tile", Check.ARGUMENT, () -> x.way(client, 12));
            Check.thrown("client of ask and its budget", Check.ARGUMENT, () -> x.ask(client, 301));
            Check.thrown("client of shown and its cell", Check.ARGUMENT,
                    () -> x.shown(client, 16, 12));
            Check.thrown("client of dirtyAt and its index", Check.ARGUMENT,
                    () -> x.dirtyAt(client, -1));
        }
        int[] beyond = {-1, 301, LEAST, MOST};
        for (int value : beyond) {
            Check.thrown("tile, and not joined", Check.ARGUMENT, () -> x.way(0, value));
            Check.thrown("budget, and not joined", Check.ARGUMENT, () -> x.ask(1, value));
            Check.thrown("column, and not joined", Check.ARGUMENT, () -> x.shown(0, value, 0));
            Check.thrown("row, and not joined", Check.ARGUMENT, () -> x.shown(1, 0, value));
            Check.thrown("not joined, and no such tile", Check.STATE, () -> x.dirtyAt(0, value));
        }
        DirtyTiles y = busy();
        for (int value : beyond) {
            Check.thrown("budget, and a message", Check.ARGUMENT, () -> y.ask(0, value));
        }
    }
}
