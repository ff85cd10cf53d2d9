/** What several tests begin with, and what they look at together. */
final class Scenes {
    /** Sixteen cells of sixteen colours, for paint. */
    static final String ALL_COLOURS = "abcdefghijklmnop";
    static final int[] ALL_TILES = {0, 1, 2, 3, 4, 5, 6, 7, 8, 9, 10, 11};

    private Scenes() {
    }

    /** Client 0 has joined, nothing else has happened. */
    static DirtyTiles joined() {
        DirtyTiles x = new DirtyTiles();
        x.join(0);
        return x;
    }

    static DirtyTiles bothJoined() {
        DirtyTiles x = joined();
        x.join(1);
        return x;
    }

    /** Both clients have answered everything, and their caches have one tile of colour 0. */
    static DirtyTiles settled() {
        DirtyTiles x = new DirtyTiles();
        for (int client = 0; client < 2; client++) {
            x.join(client);
            x.ask(client, 300);
            x.answer(client);
        }
        return x;
    }

    /** The cells have colours that differ from those of all cells near by. */
    static DirtyTiles colourful() {
        DirtyTiles x = new DirtyTiles();
        for (int row = 0; row < 12; row++) {
            for (int column = 0; column < 16; column++) {
                x.fill(column, row, 1, 1, colourfulAt(column, row));
            }
        }
        return x;
    }

    static int colourfulAt(int column, int row) {
        return (column + 5 * row) % 16;
    }

    /** Paints a tile from 16 signs, a letter for each colour from 'a' on. */
    static void paint(DirtyTiles x, int tile, String cells) {
        for (int place = 0; place < 16; place++) {
            x.fill(tile % 4 * 4 + place % 4, tile / 4 * 4 + place / 4, 1, 1,
                    cells.charAt(place) - 'a');
        }
    }

    static int fillTile(DirtyTiles x, int tile, int colour) {
        return x.fill(tile % 4 * 4, tile / 4 * 4, 4, 4, colour);
    }

    /** The client asks for all that is dirty, and answers it. */
    static void settle(DirtyTiles x, int client) {
        if (x.ask(client, 300) > 0) {
            x.answer(client);
        }
    }

    static void dirtyIs(String what, DirtyTiles x, int client, int... tiles) {
        Check.due(what + ": dirty", tiles.length, () -> x.dirty(client));
        for (int index = 0; index < tiles.length; index++) {
            int i = index;
            Check.due(what + ": dirtyAt " + i, tiles[i], () -> x.dirtyAt(client, i));
        }
        Check.thrown(what + ": dirtyAt the end", Check.INDEX,
                () -> x.dirtyAt(client, tiles.length));
    }

    static void colourIs(String what, DirtyTiles x, int column, int row, int want) {
        Check.due(what + ": colour(" + column + ", " + row + ")", want,
                () -> x.colour(column, row));
    }

    static void alikeIs(String what, DirtyTiles x, int client, boolean want) {
        Check.due(what + ": isAlike", want ? 1 : 0, () -> x.isAlike(client) ? 1 : 0);
    }

    /** Tile 0 in one colour is told to client 0, which has no other dirty tile, and answered. */
    static void tell(DirtyTiles x, int colour) {
        // Another colour in between, so that the tile is dirty in any case.
        fillTile(x, 0, colour == 15 ? 14 : 15);
        fillTile(x, 0, colour);
        x.ask(0, 300);
        x.answer(0);
    }
}
