/** Promises 11 to 14, at their edges: shown, unlike, dirty, dirtyAt. */
final class EdgesOfWhatClientsShow {
    private static final String SHOWN = "Promise 11: shown";
    private static final String UNLIKE = "Promise 12: unlike";
    private static final String DIRTY = "Promise 13: dirty";
    private static final String DIRTY_AT = "Promise 14: dirtyAt";

    private EdgesOfWhatClientsShow() {
    }

    static void look() {
        shownOfACell();
        shownClient();
        shownColumn();
        shownRow();
        shownReturns();
        shownThrowsOutOfRange();
        shownThrowsNotJoined();
        unlikeCounts();
        unlikeClient();
        unlikeReturns();
        unlikeThrowsOutOfRange();
        unlikeThrowsNotJoined();
        dirtyOfAClient();
        dirtyClient();
        dirtyReturns();
        dirtyThrowsOutOfRange();
        dirtyThrowsNotJoined();
        dirtyAtATile();
        dirtyAtClient();
        dirtyAtIndex();
        dirtyAtReturns();
        dirtyAtThrowsOutOfRange();
        dirtyAtThrowsNotJoined();
        dirtyAtThrowsNoSuchTile();
    }

    /** Both clients show the colourful screen. */
    private static DirtyTiles bothShow() {
        DirtyTiles x = Scenes.colourful();
        for (int client = 0; client < 2; client++) {
            x.join(client);
            x.ask(client, 300);
            x.answer(client);
        }
        return x;
    }

    private static void shownOfACell() {
        Sentences.of(SHOWN, "Returns the colour of a cell on the screen of a client.");
        DirtyTiles x = bothShow();
        x.fill(5, 5, 1, 1, 0);
        Scenes.colourIs("the screen of the server", x, 5, 5, 0);
        Check.due("not told yet", Scenes.colourfulAt(5, 5), () -> x.shown(0, 5, 5));
        x.ask(0, 300);
        Check.due("on its way", Scenes.colourfulAt(5, 5), () -> x.shown(0, 5, 5));
        x.answer(0);
        Check.due("answered", 0, () -> x.shown(0, 5, 5));
        Check.due("its neighbour", Scenes.colourfulAt(6, 5), () -> x.shown(0, 6, 5));
        Check.due("the other client", Scenes.colourfulAt(5, 5), () -> x.shown(1, 5, 5));
    }

    private static void shownClient() {
        Sentences.of(SHOWN, "- `client`: 0 or 1");
        Edges.range(0, 1, EdgesOfWhatClientsShow::bothShow, (x, v) -> x.shown(v, 9, 7),
                v -> Scenes.colourfulAt(9, 7));
    }

    private static void shownColumn() {
        Sentences.of(SHOWN, "- `column`: 0 to 15");
        Edges.range(0, 15, EdgesOfWhatClientsShow::bothShow, (x, v) -> x.shown(1, v, 11),
                v -> Scenes.colourfulAt(v, 11));
    }

    private static void shownRow() {
        Sentences.of(SHOWN, "- `row`: 0 to 11");
        Edges.range(0, 11, EdgesOfWhatClientsShow::bothShow, (x, v) -> x.shown(0, 15, v),
                v -> Scenes.colourfulAt(15, v));
    }

    private static void shownReturns() {
        Sentences.of(SHOWN, "Returns the colour.");
        for (int colour = 0; colour < 16; colour++) {
            DirtyTiles x = Scenes.joined();
            x.fill(12, 0, 4, 1, colour);
            Scenes.settle(x, 0);
            Check.due("colour " + colour, colour, () -> x.shown(0, 15, 0));
            Check.due("below it", 0, () -> x.shown(0, 15, 1));
        }
    }

    private static void shownThrowsOutOfRange() {
        Sentences.of(SHOWN, "Throws `IllegalArgumentException` if client, column or row is out of "
                + "range");
        Edges.refused(0, 1, Scenes::bothJoined, (x, v) -> x.shown(v, 0, 0));
        Edges.refused(0, 15, Scenes::bothJoined, (x, v) -> x.shown(0, v, 0));
        Edges.refused(0, 11, Scenes::bothJoined, (x, v) -> x.shown(1, 0, v));
        Edges.refused(0, 15, Scenes::bothJoined, (x, v) -> x.shown(v, v, v));
        Edges.refused(0, 15, DirtyTiles::new, (x, v) -> x.shown(0, v, 0));
        Edges.refused(0, 11, DirtyTiles::new, (x, v) -> x.shown(0, 0, v));
    }

    private static void shownThrowsNotJoined() {
        Sentences.of(SHOWN, "Throws `IllegalStateException` if the client has not joined");
        DirtyTiles x = new DirtyTiles();
        Check.thrown("nobody has joined", Check.STATE, () -> x.shown(0, 0, 0));
        x.join(1);
        Check.thrown("the other has joined", Check.STATE, () -> x.shown(0, 15, 11));
        Check.due("the one that has joined", 0, () -> x.shown(1, 15, 11));
    }

    private static void unlikeCounts() {
        Sentences.of(UNLIKE, "Counts the cells in which the screen of a client differs from that "
                + "of the server.");
        DirtyTiles x = bothShow();
        Check.due("none", 0, () -> x.unlike(0));
        x.fill(0, 0, 1, 1, 9);
        x.fill(15, 11, 1, 1, 9);
        Check.due("the first cell and the last", 2, () -> x.unlike(0));
        x.ask(0, 300);
        Check.due("on their way", 2, () -> x.unlike(0));
        x.answer(0);
        Check.due("answered", 0, () -> x.unlike(0));
        Check.due("the other client", 2, () -> x.unlike(1));
        x.fill(0, 0, 1, 1, Scenes.colourfulAt(0, 0));
        Check.due("drawn back", 1, () -> x.unlike(1));
        Check.due("drawn back, but told", 1, () -> x.unlike(0));
    }

    private static void unlikeClient() {
        Sentences.of(UNLIKE, "- `client`: 0 or 1");
        Edges.range(0, 1, Scenes::bothJoined, (x, v) -> x.unlike(v), v -> 0);
    }

    private static void unlikeReturns() {
        Sentences.of(UNLIKE, "Returns the number of cells.");
        DirtyTiles x = Scenes.joined();
        Check.due("a new screen", 0, () -> x.unlike(0));
        for (int row = 0; row < 12; row++) {
            for (int column = 0; column < 16; column++) {
                x.fill(column, row, 1, 1, 1);
                Check.due("cells", row * 16 + column + 1, () -> x.unlike(0));
            }
        }
    }

    private static void unlikeThrowsOutOfRange() {
        Sentences.of(UNLIKE, "Throws `IllegalArgumentException` if client is out of range");
        Edges.refused(0, 1, Scenes::bothJoined, (x, v) -> x.unlike(v));
        Edges.refused(0, 1, DirtyTiles::new, (x, v) -> x.unlike(v));
    }

    private static void unlikeThrowsNotJoined() {
        Sentences.of(UNLIKE, "Throws `IllegalStateException` if the client has not joined");
        DirtyTiles x = new DirtyTiles();
        Check.thrown("nobody has joined", Check.STATE, () -> x.unlike(0));
        x.join(0);
        Check.thrown("the other has joined", Check.STATE, () -> x.unlike(1));
        Check.due("the one that has joined", 0, () -> x.unlike(0));
    }

    private static void dirtyOfAClient() {
        Sentences.of(DIRTY, "Returns how many tiles are dirty for a client.");
        DirtyTiles x = Scenes.settled();
        x.fill(3, 3, 2, 2, 1);
        Check.due("four at a corner", 4, () -> x.dirty(0));
        x.fill(3, 3, 2, 2, 2);
        Check.due("the same four", 4, () -> x.dirty(0));
        x.ask(0, 15);
        Check.due("two in a message", 2, () -> x.dirty(0));
        Check.due("the other client", 4, () -> x.dirty(1));
        x.fill(3, 3, 1, 1, 3);
        Check.due("one of the message again", 3, () -> x.dirty(0));
        x.answer(0);
        Check.due("the answer leaves it", 3, () -> x.dirty(0));
    }

    private static void dirtyClient() {
        Sentences.of(DIRTY, "- `client`: 0 or 1");
        Edges.range(0, 1, Scenes::bothJoined, (x, v) -> x.dirty(v), v -> 12);
    }

    private static void dirtyReturns() {
        Sentences.of(DIRTY, "Returns the number of tiles.");
        DirtyTiles x = Scenes.settled();
        Check.due("none", 0, () -> x.dirty(1));
        for (int tile = 0; tile < 12; tile++) {
            int t = tile;
            Scenes.fillTile(x, 11 - tile, 1);
            Check.due("tiles", t + 1, () -> x.dirty(1));
        }
        x.fill(0, 0, 16, 12, 2);
        Check.due("all, and no more", 12, () -> x.dirty(1));
    }

    private static void dirtyThrowsOutOfRange() {
        Sentences.of(DIRTY, "Throws `IllegalArgumentException` if client is out of range");
        Edges.refused(0, 1, Scenes::bothJoined, (x, v) -> x.dirty(v));
        Edges.refused(0, 1, DirtyTiles::new, (x, v) -> x.dirty(v));
    }

    private static void dirtyThrowsNotJoined() {
        Sentences.of(DIRTY, "Throws `IllegalStateException` if the client has not joined");
        DirtyTiles x = new DirtyTiles();
        x.fill(0, 0, 16, 12, 1);
        Check.thrown("nobody has joined", Check.STATE, () -> x.dirty(1));
        x.join(0);
        Check.thrown("the other has joined", Check.STATE, () -> x.dirty(1));
        Check.due("the one that has joined", 12, () -> x.dirty(0));
    }

    private static void dirtyAtATile() {
        Sentences.of(DIRTY_AT, "Returns a tile that is dirty for a client.");
        DirtyTiles x = Scenes.settled();
        x.fill(12, 8, 1, 1, 1);
        x.ask(1, 300);
        x.fill(0, 4, 1, 1, 1);
        Scenes.dirtyIs("client 0", x, 0, 11, 4);
        Scenes.dirtyIs("client 1", x, 1, 4);
    }

    private static void dirtyAtClient() {
        Sentences.of(DIRTY_AT, "- `client`: 0 or 1");
        Edges.range(0, 1, Scenes::bothJoined, (x, v) -> x.dirtyAt(v, 11), v -> 11);
    }

    private static void dirtyAtIndex() {
        Sentences.of(DIRTY_AT, "- `index`: 0 for the one that became dirty first");
        DirtyTiles x = Scenes.settled();
        int[] order = {6, 1, 9};
        for (int tile : order) {
            Scenes.fillTile(x, tile, 1);
        }
        Check.due("the first", 6, () -> x.dirtyAt(0, 0));
        Check.due("the second", 1, () -> x.dirtyAt(0, 1));
        Check.due("the last", 9, () -> x.dirtyAt(0, 2));
        x.ask(0, 3);
        Check.due("the first of those that are left", 1, () -> x.dirtyAt(0, 0));
    }

    private static void dirtyAtReturns() {
        Sentences.of(DIRTY_AT, "Returns the number of the tile.");
        for (int tile = 0; tile < 12; tile++) {
            int t = tile;
            DirtyTiles x = Scenes.bothJoined();
            Check.due("just joined", t, () -> x.dirtyAt(1, t));
            DirtyTiles y = Scenes.settled();
            Scenes.fillTile(y, t, 1);
            Check.due("it alone", t, () -> y.dirtyAt(0, 0));
        }
    }

    private static void dirtyAtThrowsOutOfRange() {
        Sentences.of(DIRTY_AT, "Throws `IllegalArgumentException` if client is out of range");
        Edges.refused(0, 1, Scenes::bothJoined, (x, v) -> x.dirtyAt(v, 0));
        Edges.refused(0, 11, Scenes::bothJoined, (x, v) -> x.dirtyAt(v, v));
        Edges.refused(0, 1, DirtyTiles::new, (x, v) -> x.dirtyAt(v, 0));
    }

    private static void dirtyAtThrowsNotJoined() {
        Sentences.of(DIRTY_AT, "Throws `IllegalStateException` if the client has not joined");
        DirtyTiles x = new DirtyTiles();
        Check.thrown("nobody has joined", Check.STATE, () -> x.dirtyAt(0, 0));
        Check.thrown("nobody has joined, no such tile", Check.STATE, () -> x.dirtyAt(0, 12));
        x.join(1);
        Check.thrown("the other has joined", Check.STATE, () -> x.dirtyAt(0, 0));
        Check.due("the one that has joined", 0, () -> x.dirtyAt(1, 0));
    }

    private static void dirtyAtThrowsNoSuchTile() {
        Sentences.of(DIRTY_AT, "Throws `IndexOutOfBoundsException` if there is no such tile");
        DirtyTiles x = Scenes.joined();
        int[] wrong = {-1, 12, Integer.MIN_VALUE, Integer.MAX_VALUE};
        for (int index : wrong) {
            Check.thrown("twelve, index " + index, Check.INDEX, () -> x.dirtyAt(0, index));
        }
        Check.due("the last of twelve", 11, () -> x.dirtyAt(0, 11));
        x.ask(0, 23);
        Check.due("one is left", 11, () -> x.dirtyAt(0, 0));
        Check.thrown("one is left, index 1", Check.INDEX, () -> x.dirtyAt(0, 1));
        x.answer(0);
        x.ask(0, 2);
        Check.thrown("none is left, index 0", Check.INDEX, () -> x.dirtyAt(0, 0));
        Check.thrown("none is left, index -1", Check.INDEX, () -> x.dirtyAt(0, -1));
    }
}
