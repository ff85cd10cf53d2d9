/** Promises 15 to 18, at their edges: cached, isAlike, written, units. */
final class EdgesOfCounts {
    private static final String CACHED = "Promise 15: cached";
    private static final String ALIKE = "Promise 16: isAlike";
    private static final String WRITTEN = "Promise 17: written";
    private static final String UNITS = "Promise 18: units";

    private EdgesOfCounts() {
    }

    static void look() {
        cachedOwn();
        cachedClient();
        cachedReturns();
        cachedThrowsOutOfRange();
        cachedThrowsNotJoined();
        alikeSameTilesInTheSameOrder();
        alikeInAllPlacesButOne();
        alikeClient();
        alikeReturns();
        alikeThrowsOutOfRange();
        alikeThrowsNotJoined();
        writtenForBothClients();
        writtenWay();
        writtenReturns();
        writtenThrows();
        unitsOfAllMessages();
    }

    private static int alike(DirtyTiles x, int client) {
        return x.isAlike(client) ? 1 : 0;
    }

    private static void cachedOwn() {
        Sentences.of(CACHED, "Returns how many tiles the own cache of a client has.");
        DirtyTiles x = Scenes.bothJoined();
        x.fill(0, 0, 8, 8, 1);
        x.ask(0, 300);
        Check.due("on its way", 0, () -> x.cached(0));
        x.answer(0);
        Check.due("two different tiles", 2, () -> x.cached(0));
        Check.due("the other client", 0, () -> x.cached(1));
    }

    private static void cachedClient() {
        Sentences.of(CACHED, "- `client`: 0 or 1");
        Edges.range(0, 1, Scenes::settled, (x, v) -> x.cached(v), v -> 1);
    }

    private static void cachedReturns() {
        Sentences.of(CACHED, "Returns the number of tiles.");
        DirtyTiles x = Scenes.joined();
        Check.due("none", 0, () -> x.cached(0));
        Scenes.settle(x, 0);
        for (int colour = 1; colour <= 9; colour++) {
            int c = colour;
            Check.due("tiles of " + c + " colours", Math.min(6, c), () -> x.cached(0));
            Scenes.tell(x, colour);
        }
        Scenes.tell(x, 9);
        Check.due("one that is in it", 6, () -> x.cached(0));
        x.join(0);
        Check.due("joined anew", 0, () -> x.cached(0));
    }

    private static void cachedThrowsOutOfRange() {
        Sentences.of(CACHED, "Throws `IllegalArgumentException` if client is out of range");
        Edges.refused(0, 1, Scenes::bothJoined, (x, v) -> x.cached(v));
        Edges.refused(0, 1, DirtyTiles::new, (x, v) -> x.cached(v));
    }

    private static void cachedThrowsNotJoined() {
        Sentences.of(CACHED, "Throws `IllegalStateException` if the client has not joined");
        DirtyTiles x = new DirtyTiles();
        Check.thrown("nobody has joined", Check.STATE, () -> x.cached(0));
        x.join(0);
        Check.thrown("the other has joined", Check.STATE, () -> x.cached(1));
        Check.due("the one that has joined", 0, () -> x.cached(0));
    }

    private static void alikeSameTilesInTheSameOrder() {
        Sentences.of(ALIKE, "Returns whether the cache of a client at the server and its own one "
                + "have the same tiles in the same order.");
        DirtyTiles x = Scenes.joined();
        Check.due("both empty", 1, () -> alike(x, 0));
        x.ask(0, 3);
        Check.due("one tile more at the server", 0, () -> alike(x, 0));
        x.answer(0);
        Check.due("one tile at both", 1, () -> alike(x, 0));
        x.ask(0, 2);
        Check.due("the same one to the front", 1, () -> alike(x, 0));
        x.answer(0);
        Scenes.settle(x, 0);
        Scenes.tell(x, 1);
        Scenes.fillTile(x, 0, 0);
        x.ask(0, 2);
        Check.due("two tiles in another order", 0, () -> alike(x, 0));
        x.answer(0);
        Check.due("answered", 1, () -> alike(x, 0));
        for (int colour = 1; colour <= 6; colour++) {
            Scenes.tell(x, colour);
        }
        Scenes.fillTile(x, 0, 7);
        x.ask(0, 3);
        Check.due("six other tiles of seven", 0, () -> alike(x, 0));
        Check.due("six at the client", 6, () -> x.cached(0));
        x.answer(0);
        Check.due("six at both", 1, () -> alike(x, 0));
    }

    private static void alikeInAllPlacesButOne() {
        Sentences.of(ALIKE, "have the same tiles in the same order");
        // The own cache is 5 4 3 2 1 0 with five colours told, and 1 0 with one.
        alikeWithAMessageOf("the first is another: 6 4 3 2 1 0", 5, 0, 1, 2, 3, 4, 6);
        alikeWithAMessageOf("the last is another: 5 4 3 2 1 6", 5, 6, 1, 2, 3, 4, 5);
        alikeWithAMessageOf("one within is another: 5 4 6 2 1 0", 5, 0, 1, 2, 6, 4, 5);
        alikeWithAMessageOf("the first two have changed places: 4 5 3 2 1 0", 5, 4);
        alikeWithAMessageOf("the last two have changed places: 5 4 3 2 0 1", 5, 0, 2, 3, 4, 5);
        alikeWithAMessageOf("one more at the end: 1 0 6", 1, 6, 0, 1);
        alikeWithAMessageOf("one more at the front: 6 1 0", 1, 6);
        DirtyTiles x = withAMessageOf(5, 0, 1, 2, 3, 4, 5);
        Check.due("all brought to the front, in the order that they had", 1, () -> alike(x, 0));
        Check.due("though the message is on its way", 6, () -> x.answer(0));
    }

    private static void alikeWithAMessageOf(String what, int coloursTold, int... colours) {
        DirtyTiles x = withAMessageOf(coloursTold, colours);
        Check.due(what, 0, () -> alike(x, 0));
        Check.due(what + ", answer", colours.length, () -> x.answer(0));
        Check.due(what + ", answered", 1, () -> alike(x, 0));
    }

    /** The colours from 0 on were told one by one; then tiles of other colours are on their way. */
    private static DirtyTiles withAMessageOf(int coloursTold, int... colours) {
        DirtyTiles x = Scenes.settled();
        for (int colour = 1; colour <= coloursTold; colour++) {
            Scenes.tell(x, colour);
        }
        for (int index = 0; index < colours.length; index++) {
            // Another colour in between, so that the tile is dirty in any case.
            Scenes.fillTile(x, index + 1, 15);
            Scenes.fillTile(x, index + 1, colours[index]);
        }
        x.ask(0, 300);
        return x;
    }

    private static void alikeClient() {
        Sentences.of(ALIKE, "- `client`: 0 or 1");
        Edges.range(0, 1, Scenes::settled, EdgesOfCounts::alike, v -> 1);
        Edges.range(0, 1, () -> {
            DirtyTiles x = Scenes.bothJoined();
            x.ask(1, 300);
            return x;
        }, EdgesOfCounts::alike, v -> 1 - v);
    }

    private static void alikeReturns() {
        Sentences.of(ALIKE, "Returns whether they have.");
        DirtyTiles x = Scenes.settled();
        Scenes.fillTile(x, 0, 1);
        Check.due("drawing leaves them alike", 1, () -> alike(x, 0));
        x.ask(0, 2);
        Check.due("so does a message without tiles", 1, () -> alike(x, 0));
        x.ask(0, 3);
        Check.due("one with a new tile doesn't", 0, () -> alike(x, 0));
        Check.due("but for the other client", 1, () -> alike(x, 1));
        x.join(0);
        Check.due("joined anew", 1, () -> alike(x, 0));
    }

    private static void alikeThrowsOutOfRange() {
        Sentences.of(ALIKE, "Throws `IllegalArgumentException` if client is out of range");
        Edges.refused(0, 1, Scenes::bothJoined, EdgesOfCounts::alike);
        Edges.refused(0, 1, DirtyTiles::new, EdgesOfCounts::alike);
    }

    private static void alikeThrowsNotJoined() {
        Sentences.of(ALIKE, "Throws `IllegalStateException` if the client has not joined");
        DirtyTiles x = new DirtyTiles();
        Check.thrown("nobody has joined", Check.STATE, () -> alike(x, 0));
        x.join(1);
        Check.thrown("the other has joined", Check.STATE, () -> alike(x, 0));
        Check.due("the one that has joined", 1, () -> alike(x, 1));
    }

    private static void writtenForBothClients() {
        Sentences.of(WRITTEN, "Returns how many tiles were written in a way, for both clients.");
        DirtyTiles x = Scenes.bothJoined();
        x.ask(0, 5);
        Check.due("filled, client 0", 1, () -> x.written(1));
        Check.due("cached, client 0", 1, () -> x.written(0));
        x.ask(1, 7);
        Check.due("filled, both", 2, () -> x.written(1));
        Check.due("cached, both", 3, () -> x.written(0));
        x.answer(0);
        x.answer(1);
        Check.due("the answers write nothing", 3, () -> x.written(0));
        x.join(0);
        Check.due("joining anew takes nothing away", 3, () -> x.written(0));
    }

    /** As many tiles are written in a way as its number says, and one more. */
    private static DirtyTiles stepped() {
        DirtyTiles x = new DirtyTiles();
        Scenes.fillTile(x, 1, 1);
        for (int tile = 2; tile < 5; tile++) {
            Scenes.paint(x, tile, tile == 2 ? "abababababababab"
                    : tile == 3 ? "bcbcbcbcbcbcbcbc" : "cdcdcdcdcdcdcdcd");
        }
        for (int tile = 5; tile < 9; tile++) {
            x.fill(tile % 4 * 4, tile / 4 * 4, 4, 2, tile);
        }
        x.join(0);
        x.ask(0, 300);
        x.answer(0);
        for (int turn = 0; turn < 5; turn++) {
            Scenes.paint(x, 11, Scenes.ALL_COLOURS);
            x.fill(12, 8, 1, 1, turn + 3);
            x.ask(0, 300);
            x.answer(0);
        }
        return x;
    }

    private static void writtenWay() {
        Sentences.of(WRITTEN, "- `way`: 0 to 4");
        // Tiles 9, 10 and 11 are like tile 0, which is lost from the cache when 9 is written.
        int[] want = {2, 3, 3, 4, 5};
        Edges.range(0, 4, EdgesOfCounts::stepped, (x, v) -> x.written(v), v -> want[v]);
    }

    private static void writtenReturns() {
        Sentences.of(WRITTEN, "Returns the number of tiles.");
        DirtyTiles x = new DirtyTiles();
        for (int way = 0; way < 5; way++) {
            int w = way;
            Check.due("none, way " + w, 0, () -> x.written(w));
        }
        x.join(0);
        x.ask(0, 2);
        Check.due("the tile that was too dear", 0, () -> x.written(1));
        x.ask(0, 300);
        Check.due("one filled", 1, () -> x.written(1));
        Check.due("eleven cached", 11, () -> x.written(0));
        for (int way = 2; way < 5; way++) {
            int w = way;
            Check.due("none, way " + w, 0, () -> x.written(w));
        }
    }

    private static void writtenThrows() {
        Sentences.of(WRITTEN, "Throws `IllegalArgumentException` if way is out of range");
        Edges.refused(0, 4, DirtyTiles::new, (x, v) -> x.written(v));
        Edges.refused(0, 4, Scenes::settled, (x, v) -> x.written(v));
    }

    private static void unitsOfAllMessages() {
        Sentences.of(UNITS, "Returns how many units all messages had.");
        DirtyTiles x = new DirtyTiles();
        Check.due("no message", 0, () -> x.units());
        x.join(0);
        x.join(1);
        x.ask(0, 2);
        Check.due("a message without tiles", 0, () -> x.units());
        x.ask(0, 4);
        Check.due("what the message had, not its budget", 3, () -> x.units());
        x.answer(0);
        Check.due("an answer has none", 3, () -> x.units());
        x.ask(1, 300);
        Check.due("of both clients", 3 + 25, () -> x.units());
        x.ask(0, 300);
        Check.due("each that follows is added", 3 + 25 + 22, () -> x.units());
        x.join(0);
        x.join(1);
        Check.due("joining anew takes nothing away", 50, () -> x.units());
        Scenes.paint(x, 0, Scenes.ALL_COLOURS);
        x.ask(0, 17);
        Check.due("a raw tile", 67, () -> x.units());
    }
}
