/** Terms, at their edges: clients and what is dirty for them. */
final class EdgesOfClients {
    private static final String TERMS = "Terms";

    private EdgesOfClients() {
    }

    static void look() {
        clientsAre0And1();
        clientThatJoins();
        clientThatJoinsAnew();
        dirtyInTheOrderInWhichTheyBecameSo();
        thoseOfOneDrawingByRisingNumbers();
        dirtyAlreadyKeepsItsPlace();
    }

    private static void clientsAre0And1() {
        Sentences.of(TERMS, "Clients are 0 and 1.");
        DirtyTiles x = new DirtyTiles();
        Check.due("0", 12, () -> x.join(0));
        Check.due("1", 12, () -> x.join(1));
        Check.thrown("2", Check.ARGUMENT, () -> x.join(2));
        Check.thrown("-1", Check.ARGUMENT, () -> x.join(-1));
        Check.due("each has a message of its own", 1, () -> x.ask(0, 3));
        Check.thrown("each has a message of its own", Check.STATE, () -> x.answer(1));
        Check.due("each has dirty tiles of its own", 12, () -> x.dirty(1));
        Check.due("each has a cache of its own", 103, () -> x.way(1, 0));
    }

    private static void clientThatJoins() {
        Sentences.of(TERMS, "A client that joins has a screen with the colour 0 in all cells, an "
                + "empty cache, no message, and all tiles are dirty for it, in the order of their "
                + "numbers.");
        DirtyTiles x = new DirtyTiles();
        x.fill(0, 0, 16, 12, 6);
        x.fill(9, 9, 1, 1, 7);
        x.join(0);
        justJoined(x, 0, 192);
    }

    private static void clientThatJoinsAnew() {
        Sentences.of(TERMS, "A client that joins has a screen with the colour 0 in all cells, an "
                + "empty cache, no message");
        DirtyTiles x = Scenes.settled();
        x.fill(0, 0, 16, 12, 6);
        x.ask(0, 30);
        x.answer(0);
        x.fill(5, 5, 1, 1, 0);
        x.ask(0, 12);
        Scenes.alikeIs("a message on its way", x, 0, false);
        x.join(0);
        justJoined(x, 0, 191);
        Check.due("client 1 as it was", 1, () -> x.cached(1));
        Check.due("client 1 as it was", 12, () -> x.dirty(1));
    }

    private static void justJoined(DirtyTiles x, int client, int unlike) {
        for (int row = 0; row < 12; row++) {
            for (int column = 0; column < 16; column++) {
                int c = column;
                int r = row;
                Check.due("shown " + c + ", " + r, 0, () -> x.shown(client, c, r));
            }
        }
        Check.due("unlike", unlike, () -> x.unlike(client));
        Check.due("cached", 0, () -> x.cached(client));
        Scenes.alikeIs("empty caches", x, client, true);
        Check.due("empty cache at the server", 103, () -> x.way(client, 0));
        Check.thrown("no message", Check.STATE, () -> x.answer(client));
        Scenes.dirtyIs("all tiles", x, client, Scenes.ALL_TILES);
    }

    private static void dirtyInTheOrderInWhichTheyBecameSo() {
        Sentences.of(TERMS, "Dirty tiles of a client are in the order in which they became dirty");
        DirtyTiles x = Scenes.settled();
        int[] order = {11, 3, 7, 0, 10, 5, 1, 9, 2, 8, 4, 6};
        for (int tile : order) {
            Scenes.fillTile(x, tile, 3);
        }
        Scenes.dirtyIs("from the last drawn to the first", x, 0, order);
        x.ask(0, 3 + 2);
        Scenes.fillTile(x, 11, 4);
        Scenes.dirtyIs("a tile of the message, drawn again", x, 0,
                7, 0, 10, 5, 1, 9, 2, 8, 4, 6, 11);
    }

    private static void thoseOfOneDrawingByRisingNumbers() {
        Sentences.of(TERMS, "those of one drawing by rising numbers");
        DirtyTiles x = Scenes.settled();
        x.fill(7, 3, 6, 6, 2);
        Scenes.dirtyIs("a fill over tiles", x, 0, 1, 2, 3, 5, 6, 7, 9, 10, 11);
        DirtyTiles y = Scenes.settled();
        y.fill(12, 8, 4, 4, 2);
        y.copy(11, 7, 5, 5, -11, -7);
        Scenes.dirtyIs("a copy to the left and up", y, 0, 11, 0, 1, 4, 5);
    }

    private static void dirtyAlreadyKeepsItsPlace() {
        Sentences.of(TERMS, "one that is dirty already keeps its place");
        DirtyTiles x = Scenes.settled();
        x.fill(12, 8, 1, 1, 1);
        x.fill(4, 4, 1, 1, 1);
        x.fill(12, 8, 1, 1, 2);
        Scenes.dirtyIs("drawn again", x, 0, 11, 5);
        x.fill(0, 0, 16, 12, 3);
        Scenes.dirtyIs("ahead of the new ones", x, 0, 11, 5, 0, 1, 2, 3, 4, 6, 7, 8, 9, 10);
        x.fill(0, 0, 16, 12, 4);
        Scenes.dirtyIs("all are dirty", x, 0, 11, 5, 0, 1, 2, 3, 4, 6, 7, 8, 9, 10);
    }
}
