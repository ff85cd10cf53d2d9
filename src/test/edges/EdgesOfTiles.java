/** Promises 5 to 7, at their edges: colours, runs, way. */
final class EdgesOfTiles {
    private static final String COLOURS = "Promise 5: colours";
    private static final String RUNS = "Promise 6: runs";
    private static final String WAY = "Promise 7: way";

    private EdgesOfTiles() {
    }

    static void look() {
        coloursOfATile();
        coloursTile();
        coloursReturns();
        coloursThrows();
        runsOfATile();
        runsTile();
        runsReturns();
        runsThrows();
        wayDirtyOrNot();
        wayNow();
        wayClient();
        wayTile();
        wayReturns();
        wayThrowsOutOfRange();
        wayThrowsNotJoined();
    }

    /** Tile n has n + 1 colours, in n + 1 runs. */
    private static DirtyTiles stepped() {
        DirtyTiles x = new DirtyTiles();
        for (int tile = 0; tile < 12; tile++) {
            Scenes.paint(x, tile, line(tile + 1));
        }
        return x;
    }

    /** The last of so many colours goes on to the end. */
    private static String line(int colours) {
        String end = Scenes.ALL_COLOURS.substring(colours - 1, colours);
        return Scenes.ALL_COLOURS.substring(0, colours) + end.repeat(16 - colours);
    }

    private static void coloursOfATile() {
        Sentences.of(COLOURS, "Returns how many different colours a tile has.");
        DirtyTiles x = new DirtyTiles();
        Scenes.paint(x, 3, "abacadaeafagahai");
        Check.due("each counts once", 9, () -> x.colours(3));
        Check.due("the tile at the left", 1, () -> x.colours(2));
        Check.due("the tile below", 1, () -> x.colours(7));
        x.fill(15, 3, 1, 1, 0);
        Check.due("the last cell had a colour of its own", 8, () -> x.colours(3));
    }

    private static void coloursTile() {
        Sentences.of(COLOURS, "- `tile`: 0 to 11");
        Edges.range(0, 11, EdgesOfTiles::stepped, (x, v) -> x.colours(v), v -> v + 1);
    }

    private static void coloursReturns() {
        Sentences.of(COLOURS, "Returns the number of colours.");
        for (int colours = 1; colours <= 16; colours++) {
            int c = colours;
            DirtyTiles x = new DirtyTiles();
            Scenes.paint(x, 8, line(c));
            Check.due("of " + line(c), c, () -> x.colours(8));
        }
        DirtyTiles y = new DirtyTiles();
        Scenes.fillTile(y, 0, 15);
        Check.due("the colour 15 alone", 1, () -> y.colours(0));
    }

    private static void coloursThrows() {
        Sentences.of(COLOURS, "Throws `IllegalArgumentException` if tile is out of range");
        Edges.refused(0, 11, DirtyTiles::new, (x, v) -> x.colours(v));
    }

    private static void runsOfATile() {
        Sentences.of(RUNS, "Returns how many runs a tile has.");
        DirtyTiles x = new DirtyTiles();
        x.fill(12, 4, 4, 1, 2);
        x.fill(12, 5, 1, 1, 2);
        Check.due("on over the end of a row", 2, () -> x.runs(7));
        x.fill(11, 5, 1, 1, 2);
        Check.due("not changed by the tile at the left", 2, () -> x.runs(7));
        Check.due("the tile at the left", 3, () -> x.runs(6));
        x.fill(15, 7, 1, 1, 2);
        Check.due("the last cell", 3, () -> x.runs(7));
    }

    private static void runsTile() {
        Sentences.of(RUNS, "- `tile`: 0 to 11");
        Edges.range(0, 11, EdgesOfTiles::stepped, (x, v) -> x.runs(v), v -> v + 1);
    }

    private static void runsReturns() {
        Sentences.of(RUNS, "Returns the number of runs.");
        for (int runs = 1; runs <= 16; runs++) {
            int r = runs;
            DirtyTiles x = new DirtyTiles();
            Scenes.paint(x, 2, line(r));
            Check.due("of " + line(r), r, () -> x.runs(2));
        }
        DirtyTiles y = new DirtyTiles();
        Scenes.paint(y, 2, "abababababababab");
        Check.due("of two colours", 16, () -> y.runs(2));
    }

    private static void runsThrows() {
        Sentences.of(RUNS, "Throws `IllegalArgumentException` if tile is out of range");
        Edges.refused(0, 11, DirtyTiles::new, (x, v) -> x.runs(v));
    }

    private static void wayDirtyOrNot() {
        Sentences.of(WAY, "would be written for a client now, whether it is dirty or not");
        DirtyTiles x = Scenes.joined();
        for (int tile = 0; tile < 12; tile++) {
            Scenes.fillTile(x, tile, tile + 1);
        }
        Check.due("dirty", 103, () -> x.way(0, 3));
        Scenes.settle(x, 0);
        Check.due("none is dirty", 0, () -> x.dirty(0));
        Check.due("not dirty, lost from the cache", 103, () -> x.way(0, 3));
        Check.due("not dirty, cached", 2, () -> x.way(0, 9));
        x.fill(4, 8, 1, 1, 0);
        Check.due("dirty, no longer as it is cached", 305, () -> x.way(0, 9));
        x.fill(4, 8, 1, 1, 10);
        Check.due("dirty, as it is cached", 2, () -> x.way(0, 9));
    }

    private static void wayNow() {
        Sentences.of(WAY, "Returns in which way a tile would be written for a client now");
        DirtyTiles x = Scenes.bothJoined();
        int units = x.units();
        Check.due("now", 103, () -> x.way(0, 0));
        Check.due("asking the way writes nothing", 103, () -> x.way(0, 0));
        Check.due("no units", units, () -> x.units());
        Check.due("still dirty", 12, () -> x.dirty(0));
        x.ask(0, 3);
        Check.due("with a message on its way", 2, () -> x.way(0, 0));
        Check.due("for the other client", 103, () -> x.way(1, 0));
        x.answer(0);
        Check.due("answered", 2, () -> x.way(0, 0));
        x.fill(1, 1, 1, 1, 1);
        Check.due("drawn on", 307, () -> x.way(0, 0));
        x.join(0);
        Check.due("joined anew", 103, () -> x.way(0, 5));
    }

    private static void wayClient() {
        Sentences.of(WAY, "- `client`: 0 or 1");
        Edges.range(0, 1, Scenes::bothJoined, (x, v) -> x.way(v, 0), v -> 103);
    }

    private static void wayTile() {
        Sentences.of(WAY, "- `tile`: 0 to 11");
        int[] want = {103, 305, 307, 309, 311, 313, 315, 317, 417, 417, 417, 417};
        Edges.range(0, 11, () -> {
            DirtyTiles x = stepped();
            x.join(1);
            return x;
        }, (x, v) -> x.way(1, v), v -> want[v]);
    }

    private static void wayReturns() {
        Sentences.of(WAY, "Returns 100 times the way plus the units that it takes.");
        DirtyTiles x = Scenes.joined();
        Check.due("1, filled", 103, () -> x.way(0, 0));
        x.ask(0, 3);
        Check.due("0, cached", 2, () -> x.way(0, 0));
        Scenes.paint(x, 0, "abababababababab");
        Check.due("2, two colours", 210, () -> x.way(0, 0));
        Scenes.paint(x, 0, "abcabcabcabcabca");
        Check.due("2, three colours", 215, () -> x.way(0, 0));
        Scenes.paint(x, 0, "abcdabcdabcdabcd");
        Check.due("2, four colours", 216, () -> x.way(0, 0));
        Scenes.paint(x, 0, "aaaaaaaaaaaaaaab");
        Check.due("3, the fewest runs", 305, () -> x.way(0, 0));
        Scenes.paint(x, 0, "abcdefghhhhhhhhh");
        Check.due("3, the most runs", 317, () -> x.way(0, 0));
        Scenes.paint(x, 0, Scenes.ALL_COLOURS);
        Check.due("4, raw", 417, () -> x.way(0, 0));
    }

    private static void wayThrowsOutOfRange() {
        Sentences.of(WAY, "Throws `IllegalArgumentException` if client or tile is out of range");
        Edges.refused(0, 1, Scenes::bothJoined, (x, v) -> x.way(v, 0));
        Edges.refused(0, 11, Scenes::bothJoined, (x, v) -> x.way(0, v));
        Edges.refused(0, 11, Scenes::bothJoined, (x, v) -> x.way(v, v));
        Edges.refused(0, 11, DirtyTiles::new, (x, v) -> x.way(1, v));
    }

    private static void wayThrowsNotJoined() {
        Sentences.of(WAY, "Throws `IllegalStateException` if the client has not joined");
        DirtyTiles x = new DirtyTiles();
        Check.thrown("nobody has joined", Check.STATE, () -> x.way(0, 0));
        x.join(1);
        Check.thrown("the other has joined", Check.STATE, () -> x.way(0, 11));
        Check.due("the one that has joined", 103, () -> x.way(1, 11));
    }
}
