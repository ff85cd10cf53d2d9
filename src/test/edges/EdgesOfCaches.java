/** Terms, at their edges: the front of a cache, what is lost there, what an answer brings. */
final class EdgesOfCaches {
    private static final String TERMS = "Terms";

    private EdgesOfCaches() {
    }

    static void look() {
        toTheFrontOfTheCache();
        takenOutFirstIfItIsInIt();
        moreThanSixTilesLoseTheLast();
        moreThanSixTilesInOneMessage();
        atMostOneMessage();
        answerBringsTheTilesToTheScreen();
        answerBringsTheTilesToTheOwnCache();
        answerBringsTheTilesInTheirOrder();
    }

    /** The cache of client 0 had a tile of the colour 0; then these colours were told. */
    private static DirtyTiles told(int... colours) {
        DirtyTiles x = Scenes.settled();
        for (int colour : colours) {
            Scenes.tell(x, colour);
        }
        return x;
    }

    /** Tells new colours one by one, and looks which tile is lost by each: the last one first. */
    private static void cacheIs(String what, int[] told, int... frontFirst) {
        for (int more = 0; more <= frontFirst.length; more++) {
            DirtyTiles x = told(told);
            // The new colours fill up the cache, if it isn't full, and push out the last ones then.
            for (int other = 0; other < 6 - frontFirst.length + more; other++) {
                Scenes.tell(x, 14 - other);
            }
            for (int index = 0; index < frontFirst.length; index++) {
                boolean held = index < frontFirst.length - more;
                int colour = frontFirst[index];
                Scenes.fillTile(x, 11, colour);
                Check.due(what + ": colour " + colour + " after " + more + " that are too many",
                        held ? 2 : 103, () -> x.way(0, 11));
            }
            Scenes.alikeIs(what, x, 0, true);
        }
    }

    private static void toTheFrontOfTheCache() {
        Sentences.of(TERMS, "goes to the front of the cache at the server");
        cacheIs("one tile", new int[] {}, 0);
        cacheIs("two tiles", new int[] {1}, 1, 0);
        cacheIs("six tiles", new int[] {1, 2, 3, 4, 5}, 5, 4, 3, 2, 1, 0);
        cacheIs("seven tiles", new int[] {1, 2, 3, 4, 5, 6}, 6, 5, 4, 3, 2, 1);
        cacheIs("eight tiles", new int[] {1, 2, 3, 4, 5, 6, 7}, 7, 6, 5, 4, 3, 2);
    }

    private static void takenOutFirstIfItIsInIt() {
        Sentences.of(TERMS, "it is taken out there first if it is in it");
        cacheIs("the only one", new int[] {0}, 0);
        cacheIs("the last of two", new int[] {1, 0}, 0, 1);
        cacheIs("the first of two", new int[] {1, 1}, 1, 0);
        cacheIs("the middle of three", new int[] {1, 2, 1}, 1, 2, 0);
        // In a full cache nothing is lost by that.
        cacheIs("the first of six", new int[] {1, 2, 3, 4, 5, 5}, 5, 4, 3, 2, 1, 0);
        cacheIs("the second of six", new int[] {1, 2, 3, 4, 5, 4}, 4, 5, 3, 2, 1, 0);
        cacheIs("the third of six", new int[] {1, 2, 3, 4, 5, 3}, 3, 5, 4, 2, 1, 0);
        cacheIs("the fifth of six", new int[] {1, 2, 3, 4, 5, 1}, 1, 5, 4, 3, 2, 0);
        cacheIs("the last of six", new int[] {1, 2, 3, 4, 5, 0}, 0, 5, 4, 3, 2, 1);
        // Another tile with the same cells is the same one in the cache.
        DirtyTiles x = told(1, 2);
        Scenes.fillTile(x, 7, 1);
        Scenes.settle(x, 0);
        Check.due("the same cells in another tile", 3, () -> x.cached(0));
        // A tile that was lost is a new one.
        cacheIs("one that was lost", new int[] {1, 2, 3, 4, 5, 6, 0}, 0, 6, 5, 4, 3, 2);
    }

    private static void moreThanSixTilesLoseTheLast() {
        Sentences.of(TERMS, "if the cache has more than 6 tiles then, the last one is lost");
        DirtyTiles x = told();
        for (int colour = 1; colour <= 8; colour++) {
            int c = colour;
            Check.due("tiles of " + c + " colours", Math.min(c, 6), () -> x.cached(0));
            Scenes.tell(x, colour);
        }
        DirtyTiles six = told(1, 2, 3, 4, 5);
        Scenes.fillTile(six, 11, 0);
        Check.due("the sixth is held", 2, () -> six.way(0, 11));
        DirtyTiles seven = told(1, 2, 3, 4, 5, 6);
        Scenes.fillTile(seven, 11, 0);
        Check.due("the seventh is lost", 103, () -> seven.way(0, 11));
        Scenes.fillTile(seven, 10, 1);
        Check.due("it alone", 2, () -> seven.way(0, 10));
    }

    private static void moreThanSixTilesInOneMessage() {
        Sentences.of(TERMS, "if the cache has more than 6 tiles then, the last one is lost");
        // Tile 6 has the cells of tile 1, tile 8 those of tile 0, which are lost by then.
        int[] colours = {1, 2, 3, 4, 5, 6, 2, 7, 1, 3, 8, 9};
        DirtyTiles x = new DirtyTiles();
        for (int tile = 0; tile < 12; tile++) {
            Scenes.fillTile(x, tile, colours[tile]);
        }
        x.join(1);
        Check.due("all in one message", 12, () -> x.ask(1, 11 * 3 + 2));
        // 2 is still held; 7 loses 1, and 1 loses 3 when it comes again.
        Check.due("one was cached", 1, () -> x.written(0));
        Check.due("the others were filled", 11, () -> x.written(1));
        x.answer(1);
        Check.due("six in its own cache", 6, () -> x.cached(1));
        Scenes.alikeIs("after the answer", x, 1, true);
    }

    private static void atMostOneMessage() {
        Sentences.of(TERMS, "A client has at most one message that it has not answered.");
        DirtyTiles x = Scenes.bothJoined();
        x.ask(0, 5);
        Check.thrown("with a message", Check.STATE, () -> x.ask(0, 5));
        Check.thrown("even if it would have no tiles", Check.STATE, () -> x.ask(0, 0));
        Check.due("the other client has its own", 1, () -> x.ask(1, 3));
        Check.due("the message has two tiles", 2, () -> x.answer(0));
        Check.thrown("none is left", Check.STATE, () -> x.answer(0));
        Check.due("answered, it may ask again", 2, () -> x.ask(0, 5));
        Check.due("the other answers", 1, () -> x.answer(1));
        Check.due("two again", 2, () -> x.answer(0));
        Check.due("a message without tiles is none", 0, () -> x.ask(0, 0));
        Check.due("so it may ask", 1, () -> x.ask(0, 2));
        x.join(0);
        Check.thrown("joined anew, it has none", Check.STATE, () -> x.answer(0));
        Check.due("and may ask", 1, () -> x.ask(0, 3));
    }

    private static void answerBringsTheTilesToTheScreen() {
        Sentences.of(TERMS, "When it answers, the tiles of the message come to its screen");
        DirtyTiles x = Scenes.settled();
        Scenes.paint(x, 5, Scenes.ALL_COLOURS);
        Scenes.paint(x, 11, Scenes.ALL_COLOURS);
        x.ask(0, 17);
        Check.due("not ahead of the answer", 30, () -> x.unlike(0));
        // Drawn on after the client asked: the message has the cells as they were.
        x.fill(4, 4, 4, 4, 9);
        x.answer(0);
        for (int place = 0; place < 16; place++) {
            int p = place;
            Check.due("cell " + p, p, () -> x.shown(0, 4 + p % 4, 4 + p / 4));
            Check.due("a tile that wasn't in it", 0, () -> x.shown(0, 12 + p % 4, 8 + p / 4));
        }
        Check.due("unlike in both tiles", 15 + 15, () -> x.unlike(0));
        Check.due("the other client", 16 + 15, () -> x.unlike(1));
        Scenes.dirtyIs("told again later", x, 0, 11, 5);
        Scenes.settle(x, 0);
        Check.due("as it is in the end", 0, () -> x.unlike(0));
    }

    private static void answerBringsTheTilesToTheOwnCache() {
        Sentences.of(TERMS, "and to its own cache in the same way");
        for (int tiles = 1; tiles <= 12; tiles++) {
            int t = tiles;
            DirtyTiles x = new DirtyTiles();
            for (int tile = 0; tile < 12; tile++) {
                Scenes.fillTile(x, tile, tile + 1);
            }
            x.join(0);
            Check.due("ask for " + t, t, () -> x.ask(0, 3 * t));
            Check.due("ahead of the answer", 0, () -> x.cached(0));
            Scenes.alikeIs("ahead of the answer", x, 0, false);
            Check.due("answer " + t, t, () -> x.answer(0));
            Check.due("six at most", Math.min(6, t), () -> x.cached(0));
            Scenes.alikeIs("after the answer", x, 0, true);
        }
        DirtyTiles y = Scenes.joined();
        y.ask(0, 300);
        y.answer(0);
        Check.due("the same cells are one tile", 1, () -> y.cached(0));
    }

    private static void answerBringsTheTilesInTheirOrder() {
        Sentences.of(TERMS, "in their order.");
        // The cache is 2 1 0; the message has 1, 3, 0: 0 3 1 2 at the server, and at the client.
        DirtyTiles x = told(1, 2);
        Scenes.fillTile(x, 9, 1);
        Scenes.fillTile(x, 2, 3);
        Scenes.fillTile(x, 0, 0);
        Check.due("three tiles", 3, () -> x.ask(0, 7));
        Scenes.alikeIs("on its way", x, 0, false);
        x.answer(0);
        Check.due("four tiles", 4, () -> x.cached(0));
        Scenes.alikeIs("answered", x, 0, true);
        // Brought to the front in another order, the same tiles aren't alike.
        Scenes.fillTile(x, 0, 2);
        Scenes.fillTile(x, 9, 0);
        x.ask(0, 300);
        Check.due("the same four tiles", 4, () -> x.cached(0));
        Scenes.alikeIs("2 and 0 on their way", x, 0, false);
        x.answer(0);
        Scenes.alikeIs("answered again", x, 0, true);
    }
}
