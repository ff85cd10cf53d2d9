/**
 * A remote screen server: tells the tiles of a screen that have changed to each client as it asks.
 *
 * <p>A tile has 16 cells of 16 colours, so its cells fit into one long, four bits a cell, the first
 * cell lowest. That is how tiles are held on screens, in messages and in caches: two tiles have the
 * same cells if the longs are the same.
 */
public final class DirtyTiles {
    private static final int COLUMNS = 16;
    private static final int ROWS = 12;
    private static final int COLOURS = 16;
    private static final int TILE_SIDE = 4;
    private static final int TILES_IN_ROW = 4;
    private static final int TILES = 12;
    private static final int CELLS_IN_TILE = 16;
    private static final int BITS_OF_CELL = 4;
    private static final long CELL_MASK = 15L;
    private static final int CLIENTS = 2;
    private static final int TILES_IN_CACHE = 6;
    private static final int MOST_BUDGET = 300;

    private static final int CACHED = 0;
    private static final int FILLED = 1;
    private static final int BY_COLOURS = 2;
    private static final int BY_RUNS = 3;
    private static final int WAYS = 5;

    /** Stands for the units of a way in which a tile can't be written: dearer than every way. */
    private static final int IMPOSSIBLE = 99;

    /** A way and its units are held in one number: this times the way, plus the units. */
    private static final int WAY_FACTOR = 100;

    private final Screen screen = new Screen();
    private final Screen screenBefore = new Screen();
    private final Client[] clients = new Client[CLIENTS];
    private final int[] tilesWritten = new int[WAYS];
    private int unitsWritten = 0;

    public DirtyTiles() {
        for (int number = 0; number < clients.length; number++) {
            clients[number] = new Client();
        }
    }

    // ---- drawing

    public int fill(int column, int row, int wide, int high, int colour)
            throws IllegalArgumentException {
        requireArgument(isBox(column, row, wide, high));
        requireArgument(isIndex(colour, COLOURS));
        screenBefore.become(screen);
        for (int y = row; y < row + high; y++) {
            for (int x = column; x < column + wide; x++) {
                screen.paint(x, y, colour);
            }
        }
        return noteChanges();
    }

    public int copy(int column, int row, int wide, int high, int right, int down)
            throws IllegalArgumentException {
        requireArgument(isBox(column, row, wide, high));
        requireArgument(isBetween(right, 1 - COLUMNS, COLUMNS - 1));
        requireArgument(isBetween(down, 1 - ROWS, ROWS - 1));
        screenBefore.become(screen);
        for (int y = row; y < row + high; y++) {
            for (int x = column; x < column + wide; x++) {
                if (isCell(x + right, y + down)) {
                    screen.paint(x + right, y + down, screenBefore.colourAt(x, y));
                }
            }
        }
        return noteChanges();
    }

    public int colour(int column, int row) throws IllegalArgumentException {
        requireArgument(isCell(column, row));
        return screen.colourAt(column, row);
    }

    // ---- tiles

    public int colours(int tile) throws IllegalArgumentException {
        requireArgument(isIndex(tile, TILES));
        return countColours(screen.cellsOf(tile));
    }

    public int runs(int tile) throws IllegalArgumentException {
        requireArgument(isIndex(tile, TILES));
        return countRuns(screen.cellsOf(tile));
    }

    public int way(int client, int tile) throws IllegalArgumentException, IllegalStateException {
        requireArgument(isIndex(client, CLIENTS));
        requireArgument(isIndex(tile, TILES));
        requireState(clients[client].hasJoined());
        return cheapestWriting(screen.cellsOf(tile), clients[client].serverCache());
    }

    // ---- clients

    public int join(int client) throws IllegalArgumentException {
        requireArgument(isIndex(client, CLIENTS));
        clients[client].beginAnew();
        return clients[client].dirtyCount();
    }

    public int ask(int client, int budget) throws IllegalArgumentException, IllegalStateException {
        requireArgument(isIndex(client, CLIENTS));
        requireArgument(isBetween(budget, 0, MOST_BUDGET));
        requireState(clients[client].hasJoined());
        requireState(!clients[client].hasMessage());
        writeMessage(clients[client], budget);
        return clients[client].messageCount();
    }

    public int answer(int client) throws IllegalArgumentException, IllegalStateException {
        requireArgument(isIndex(client, CLIENTS));
        requireState(clients[client].hasJoined());
        requireState(clients[client].hasMessage());
        return clients[client].takeMessage();
    }

    public int shown(int client, int column, int row)
            throws IllegalArgumentException, IllegalStateException {
        requireArgument(isIndex(client, CLIENTS));
        requireArgument(isCell(column, row));
        requireState(clients[client].hasJoined());
        return clients[client].ownScreen().colourAt(column, row);
    }

    public int unlike(int client) throws IllegalArgumentException, IllegalStateException {
        requireArgument(isIndex(client, CLIENTS));
        requireState(clients[client].hasJoined());
        Screen own = clients[client].ownScreen();
        int count = 0;
        for (int tile = 0; tile < TILES; tile++) {
            count += countDifferent(own.cellsOf(tile), screen.cellsOf(tile));
        }
        return count;
    }

    public int dirty(int client) throws IllegalArgumentException, IllegalStateException {
        requireArgument(isIndex(client, CLIENTS));
        requireState(clients[client].hasJoined());
        return clients[client].dirtyCount();
    }

    public int dirtyAt(int client, int index)
            throws IllegalArgumentException, IllegalStateException, IndexOutOfBoundsException {
        requireArgument(isIndex(client, CLIENTS));
        requireState(clients[client].hasJoined());
        if (!isIndex(index, clients[client].dirtyCount())) {
            throw new IndexOutOfBoundsException("no such dirty tile");
        }
        return clients[client].dirtyTileAt(index);
    }

    public int cached(int client) throws IllegalArgumentException, IllegalStateException {
        requireArgument(isIndex(client, CLIENTS));
        requireState(clients[client].hasJoined());
        return clients[client].ownCache().size();
    }

    public boolean isAlike(int client) throws IllegalArgumentException, IllegalStateException {
        requireArgument(isIndex(client, CLIENTS));
        requireState(clients[client].hasJoined());
        return clients[client].serverCache().hasSameTilesAs(clients[client].ownCache());
    }

    public int written(int way) throws IllegalArgumentException {
        requireArgument(isIndex(way, WAYS));
        return tilesWritten[way];
    }

    public int units() {
        return unitsWritten;
    }

    // ---- what the calls above are made of

    private static void requireArgument(boolean holds) {
        if (!holds) {
            throw new IllegalArgumentException("a parameter is out of range");
        }
    }

    private static void requireState(boolean holds) {
        if (!holds) {
            throw new IllegalStateException("the client is not in the state for this");
        }
    }

    private static boolean isBetween(int value, int least, int most) {
        return value >= least && value <= most;
    }

    private static boolean isIndex(int value, int count) {
        return value >= 0 && value < count;
    }

    private static boolean isCell(int column, int row) {
        return isIndex(column, COLUMNS) && isIndex(row, ROWS);
    }

    private static boolean isBox(int column, int row, int wide, int high) {
        return isCell(column, row)
                && isBetween(wide, 1, COLUMNS - column)
                && isBetween(high, 1, ROWS - row);
    }

    /** Makes the tiles dirty that the drawing has changed; returns how many cells it has changed. */
    private int noteChanges() {
        int count = 0;
        for (int tile = 0; tile < TILES; tile++) {
            int different = countDifferent(screenBefore.cellsOf(tile), screen.cellsOf(tile));
            if (different > 0) {
                makeDirtyForAll(tile);
            }
            count += different;
        }
        return count;
    }

    private void makeDirtyForAll(int tile) {
        for (int number = 0; number < clients.length; number++) {
            if (clients[number].hasJoined()) {
                clients[number].makeDirty(tile);
            }
        }
    }

    private void writeMessage(Client client, int budget) {
        int unitsLeft = budget;
        int dirtyTiles = client.dirtyCount();
        for (int index = 0; index < dirtyTiles; index++) {
            int tile = client.dirtyTileAt(index);
            long cells = screen.cellsOf(tile);
            int writing = cheapestWriting(cells, client.serverCache());
            int tileUnits = writing % WAY_FACTOR;
            if (tileUnits > unitsLeft) {
                break;
            }
            unitsLeft -= tileUnits;
            client.addToMessage(tile, cells);
            tilesWritten[writing / WAY_FACTOR]++;
        }
        unitsWritten += budget - unitsLeft;
        client.cleanTilesOfMessage();
    }

    /** Returns 100 times the way plus its units; of ways with the fewest units, the first one. */
    private static int cheapestWriting(long cells, Cache cache) {
        int bestWay = 0;
        int fewestUnits = IMPOSSIBLE;
        for (int candidate = 0; candidate < WAYS; candidate++) {
            int candidateUnits = unitsIn(candidate, cells, cache);
            if (candidateUnits < fewestUnits) {
                bestWay = candidate;
                fewestUnits = candidateUnits;
            }
        }
        return WAY_FACTOR * bestWay + fewestUnits;
    }

    private static int unitsIn(int candidate, long cells, Cache cache) {
        switch (candidate) {
            case CACHED:
                return cache.holds(cells) ? 2 : IMPOSSIBLE;
            case FILLED:
                return countColours(cells) == 1 ? 3 : IMPOSSIBLE;
            case BY_COLOURS:
                return unitsByColours(countColours(cells));
            case BY_RUNS:
                return 1 + 2 * countRuns(cells);
            default:
                return 17;
        }
    }

    private static int unitsByColours(int count) {
        switch (count) {
            case 2:
                return 10;
            case 3:
                return 15;
            case 4:
                return 16;
            default:
                return IMPOSSIBLE;
        }
    }

    private static int cellAt(long cells, int place) {
        return (int) ((cells >>> (BITS_OF_CELL * place)) & CELL_MASK);
    }

    private static int countColours(long cells) {
        int seen = 0;
        for (int place = 0; place < CELLS_IN_TILE; place++) {
            seen |= 1 << cellAt(cells, place);
        }
        return Integer.bitCount(seen);
    }

    private static int countRuns(long cells) {
        int count = 1;
        for (int place = 1; place < CELLS_IN_TILE; place++) {
            if (cellAt(cells, place) != cellAt(cells, place - 1)) {
                count++;
            }
        }
        return count;
    }

    private static int countDifferent(long cells, long otherCells) {
        int count = 0;
        for (int place = 0; place < CELLS_IN_TILE; place++) {
            if (cellAt(cells, place) != cellAt(otherCells, place)) {
                count++;
            }
        }
        return count;
    }

    /** A screen of cells, held tile by tile. Its callers have tested columns, rows and tiles. */
    private static final class Screen {
        private final long[] tiles = new long[TILES];

        long cellsOf(int tile) {
            return tiles[tile];
        }

        void replaceTile(int tile, long cells) {
            tiles[tile] = cells;
        }

        int colourAt(int column, int row) {
            return cellAt(tiles[tileOf(column, row)], placeInTile(column, row));
        }

        void paint(int column, int row, int newColour) {
            int tile = tileOf(column, row);
            int shift = BITS_OF_CELL * placeInTile(column, row);
            tiles[tile] = (tiles[tile] & ~(CELL_MASK << shift)) | ((long) newColour << shift);
        }

        void become(Screen other) {
            for (int tile = 0; tile < TILES; tile++) {
                tiles[tile] = other.tiles[tile];
            }
        }

        void clear() {
            for (int tile = 0; tile < TILES; tile++) {
                tiles[tile] = 0L;
            }
        }

        private static int tileOf(int column, int row) {
            return TILES_IN_ROW * (row / TILE_SIDE) + column / TILE_SIDE;
        }

        private static int placeInTile(int column, int row) {
            return TILE_SIDE * (row % TILE_SIDE) + column % TILE_SIDE;
        }
    }

    /** The tiles that were told last, the latest one first, none of them twice. */
    private static final class Cache {
        private final long[] tiles = new long[TILES_IN_CACHE];
        private int count = 0;

        int size() {
            return count;
        }

        void clear() {
            count = 0;
        }

        boolean holds(long cells) {
            return placeOf(cells) < count;
        }

        void bringToFront(long cells) {
            int place = placeOf(cells);
            if (place == count && count < TILES_IN_CACHE) {
                count++;
            }
            // In a full cache that has not got the tile, the last one is written over.
            for (int later = Math.min(place, TILES_IN_CACHE - 1); later > 0; later--) {
                tiles[later] = tiles[later - 1];
            }
            tiles[0] = cells;
        }

        boolean hasSameTilesAs(Cache other) {
            if (count != other.count) {
                return false;
            }
            for (int place = 0; place < count; place++) {
                if (tiles[place] != other.tiles[place]) {
                    return false;
                }
            }
            return true;
        }

        /** Returns where the tile is, or the number of tiles if it is not in the cache. */
        private int placeOf(long cells) {
            for (int place = 0; place < count; place++) {
                if (tiles[place] == cells) {
                    return place;
                }
            }
            return count;
        }
    }

    /** A client, with what the server knows of it and what it has itself. */
    private static final class Client {
        private boolean joined = false;
        private final Screen ownScreen = new Screen();
        private final Cache ownCache = new Cache();
        private final Cache serverCache = new Cache();
        private final int[] dirtyTiles = new int[TILES];
        private int dirtyCount = 0;
        private final int[] messageTiles = new int[TILES];
        // The cells are kept as they were when the client asked: later drawings don't change them.
        private final long[] messageCells = new long[TILES];
        private int messageCount = 0;

        boolean hasJoined() {
            return joined;
        }

        Screen ownScreen() {
            return ownScreen;
        }

        Cache ownCache() {
            return ownCache;
        }

        Cache serverCache() {
            return serverCache;
        }

        int dirtyCount() {
            return dirtyCount;
        }

        int dirtyTileAt(int index) {
            return dirtyTiles[index];
        }

        int messageCount() {
            return messageCount;
        }

        boolean hasMessage() {
            return messageCount > 0;
        }

        void beginAnew() {
            joined = true;
            ownScreen.clear();
            ownCache.clear();
            serverCache.clear();
            messageCount = 0;
            for (int tile = 0; tile < TILES; tile++) {
                dirtyTiles[tile] = tile;
            }
            dirtyCount = TILES;
        }

        void makeDirty(int tile) {
            for (int index = 0; index < dirtyCount; index++) {
                if (dirtyTiles[index] == tile) {
                    return;
                }
            }
            // No tile is in the row twice, so there is room; the bound is looked at all the same.
            if (dirtyCount < TILES) {
                dirtyTiles[dirtyCount] = tile;
                dirtyCount++;
            }
        }

        void addToMessage(int tile, long cells) {
            if (messageCount < TILES) {
                messageTiles[messageCount] = tile;
                messageCells[messageCount] = cells;
                messageCount++;
            }
            serverCache.bringToFront(cells);
        }

        /** The tiles of a message are the first of the dirty ones: the others move up. */
        void cleanTilesOfMessage() {
            for (int index = messageCount; index < dirtyCount; index++) {
                dirtyTiles[index - messageCount] = dirtyTiles[index];
            }
            dirtyCount -= messageCount;
        }

        int takeMessage() {
            int taken = messageCount;
            for (int index = 0; index < taken; index++) {
                ownScreen.replaceTile(messageTiles[index], messageCells[index]);
                ownCache.bringToFront(messageCells[index]);
            }
            messageCount = 0;
            return taken;
        }
    }
}
