/** Promises 5 to 7: colours, runs, way. */
public final class TilesTest {
    public static void main(String[] args) {
        plainTile();
        everyTileByItself();
        tilesAndTheirWays();
        cellsOfTileGoAlongRows();
        cachedIsCheapest();
        wayFollowsTheServersCache();
        refusals();
        Check.end();
    }

    private static void plainTile() {
        DirtyTiles x = new DirtyTiles();
        x.join(0);
        for (int tile = 0; tile < 12; tile++) {
            int t = tile;
            Check.due("P5 colours", 1, () -> x.colours(t));
            Check.due("P6 runs", 1, () -> x.runs(t));
            Check.due("P7 way: filled ahead of one run", 103, () -> x.way(0, t));
        }
    }

    private static void everyTileByItself() {
        for (int tile = 0; tile < 12; tile++) {
            DirtyTiles x = new DirtyTiles();
            Scenes.paint(x, tile, Scenes.ALL_COLOURS);
            for (int other = 0; other < 12; other++) {
                int o = other;
                Check.due("P5 colours of " + o, o == tile ? 16 : 1, () -> x.colours(o));
                Check.due("P6 runs of " + o, o == tile ? 16 : 1, () -> x.runs(o));
            }
        }
    }

    private static void tilesAndTheirWays() {
        tile("bbbbbbbbbbbbbbbb", 1, 1, 103);
        tile("aaaaaaaabbbbbbbb", 2, 2, 305);
        tile("aaaabbbbaaaabbbb", 2, 4, 309);
        tile("aabbaabbaabbbbbb", 2, 6, 210);
        tile("aaabbbaaaabbbaaa", 2, 5, 210);
        tile("abababababababab", 2, 16, 210);
        tile("aaaabbbbccccaaaa", 3, 4, 309);
        tile("abcabcaaaaaaaaaa", 3, 7, 215);
        tile("abcabccccccccccc", 3, 6, 313);
        tile("abcabcabcabcabca", 3, 16, 215);
        tile("abcdabcddddddddd", 4, 8, 216);
        tile("abcdabcccccccccc", 4, 7, 315);
        tile("dcbaabcdabcdabcd", 4, 15, 216);
        tile("abcdeabccccccccc", 5, 8, 317);
        tile("abcdeabcaaaaaaaa", 5, 9, 417);
        tile("abcdeabbbbbbbbbb", 5, 7, 315);
        tile("abcdefghhhhhhhhh", 8, 8, 317);
        tile("abcdefghiiiiiiii", 9, 9, 417);
        tile("abcdefghijklmnop", 16, 16, 417);
        tile("pppppppppppppppo", 2, 2, 305);
    }

    private static void tile(String cells, int colours, int runs, int way) {
        DirtyTiles x = new DirtyTiles();
        x.join(1);
        Scenes.paint(x, 6, cells);
        Check.due("P5 colours of " + cells, colours, () -> x.colours(6));
        Check.due("P6 runs of " + cells, runs, () -> x.runs(6));
        Check.due("P7 way of " + cells, way, () -> x.way(1, 6));
    }

    private static void cellsOfTileGoAlongRows() {
        DirtyTiles x = new DirtyTiles();
        x.fill(0, 0, 4, 2, 3);
        Check.due("P6 two rows", 2, () -> x.runs(0));
        DirtyTiles y = new DirtyTiles();
        y.fill(0, 0, 2, 4, 3);
        Check.due("P6 two columns", 8, () -> y.runs(0));
        DirtyTiles z = new DirtyTiles();
        z.fill(3, 0, 1, 1, 3);
        z.fill(0, 1, 1, 1, 3);
        Check.due("P6 a run over the end of a row", 3, () -> z.runs(0));
    }

    private static void cachedIsCheapest() {
        DirtyTiles x = new DirtyTiles();
        x.join(0);
        x.join(1);
        Scenes.paint(x, 0, Scenes.ALL_COLOURS);
        Scenes.paint(x, 11, Scenes.ALL_COLOURS);
        x.ask(0, 17);
        Check.due("P7 the tile itself is cached", 2, () -> x.way(0, 0));
        Check.due("P7 a tile with the same cells", 2, () -> x.way(0, 11));
        Check.due("P7 another tile", 103, () -> x.way(0, 5));
        Check.due("P7 the other client's cache", 417, () -> x.way(1, 0));
    }

    private static void wayFollowsTheServersCache() {
        DirtyTiles x = new DirtyTiles();
        x.join(0);
        for (int tile = 0; tile < 12; tile++) {
            x.fill(tile % 4 * 4, tile / 4 * 4, 4, 4, tile + 1);
        }
        x.ask(0, 300);
        for (int tile = 0; tile < 12; tile++) {
            int t = tile;
            Check.due("P7 the last six are cached", t < 6 ? 103 : 2, () -> x.way(0, t));
        }
        x.join(0);
        Check.due("P7 joined anew", 103, () -> x.way(0, 11));
    }

    private static void refusals() {
        DirtyTiles x = new DirtyTiles();
        int[] tiles = {-1, 12, Integer.MAX_VALUE, Integer.MIN_VALUE};
        for (int tile : tiles) {
            Check.thrown("P5 tile " + tile, Check.ARGUMENT, () -> x.colours(tile));
            Check.thrown("P6 tile " + tile, Check.ARGUMENT, () -> x.runs(tile));
            Check.thrown("P7 tile " + tile + ", not joined", Check.ARGUMENT, () -> x.way(0, tile));
        }
        int[] clients = {-1, 2, Integer.MAX_VALUE, Integer.MIN_VALUE};
        for (int client : clients) {
            Check.thrown("P7 client " + client, Check.ARGUMENT, () -> x.way(client, 0));
        }
        Check.thrown("P7 not joined", Check.STATE, () -> x.way(0, 0));
        x.join(0);
        Check.thrown("P7 the other one not joined", Check.STATE, () -> x.way(1, 0));
    }
}
