/** Terms, at their edges: cells, tiles, drawing. */
final class EdgesOfTheScreen {
    private static final String TERMS = "Terms";

    private EdgesOfTheScreen() {
    }

    static void look() {
        screenOf16ColumnsAnd12Rows();
        colourFrom0To15();
        tilesFrom0To11();
        tileOfACell();
        cellsInOrderOfRows();
        drawingFillsOrCopies();
        copyBeyondTheScreenIsLeftOut();
        copyTakesCellsAsTheyWere();
        oneCellMakesDirty();
        dirtyForAllThatHaveJoined();
    }

    private static void screenOf16ColumnsAnd12Rows() {
        Sentences.of(TERMS, "The screen has 16 columns and 12 rows of cells, numbered from 0");
        DirtyTiles x = new DirtyTiles();
        Check.due("all cells", 192, () -> x.fill(0, 0, 16, 12, 1));
        Check.due("the last cell", 1, () -> x.colour(15, 11));
        Check.thrown("column 16", Check.ARGUMENT, () -> x.colour(16, 11));
        Check.thrown("row 12", Check.ARGUMENT, () -> x.colour(15, 12));
        Check.thrown("column -1", Check.ARGUMENT, () -> x.colour(-1, 0));
        Check.thrown("row -1", Check.ARGUMENT, () -> x.colour(0, -1));
    }

    private static void colourFrom0To15() {
        Sentences.of(TERMS, "each cell has a colour from 0 to 15, 0 at first");
        DirtyTiles x = new DirtyTiles();
        for (int colour = 0; colour < 16; colour++) {
            int c = colour;
            Check.due("at first", 0, () -> x.colour(c, 11));
            x.fill(c, 11, 1, 1, c);
            Check.due("painted " + c, c, () -> x.colour(c, 11));
        }
        Check.thrown("16", Check.ARGUMENT, () -> x.fill(0, 0, 1, 1, 16));
        Check.thrown("-1", Check.ARGUMENT, () -> x.fill(0, 0, 1, 1, -1));
    }

    private static void tilesFrom0To11() {
        Sentences.of(TERMS, "A tile has 4 columns and 4 rows; there are 12 tiles, numbered from 0");
        for (int tile = 0; tile < 12; tile++) {
            int t = tile;
            DirtyTiles x = Scenes.settled();
            Check.due("16 cells", 16, () -> Scenes.fillTile(x, t, 3));
            Scenes.dirtyIs("that tile alone", x, 0, t);
        }
        DirtyTiles y = new DirtyTiles();
        Check.due("the last tile", 1, () -> y.colours(11));
        Check.thrown("tile 12", Check.ARGUMENT, () -> y.colours(12));
        Check.thrown("tile -1", Check.ARGUMENT, () -> y.colours(-1));
    }

    private static void tileOfACell() {
        Sentences.of(TERMS, "the tile of a cell is 4 times the quotient of its row by 4, plus the "
                + "quotient of its column by 4, both rounded down");
        int[][] want = {{0, 1, 2, 3}, {4, 5, 6, 7}, {8, 9, 10, 11}};
        for (int row = 0; row < 12; row++) {
            for (int column = 0; column < 16; column++) {
                DirtyTiles x = Scenes.settled();
                x.fill(column, row, 1, 1, 1);
                Scenes.dirtyIs("cell " + column + ", " + row, x, 1, want[row / 4][column / 4]);
            }
        }
    }

    private static void cellsInOrderOfRows() {
        Sentences.of(TERMS, "The cells of a tile are in the order of its rows, those of a row by "
                + "rising columns.");
        // Two cells that are neighbours in that order make one run within the tile's others.
        for (int place = 1; place < 14; place++) {
            DirtyTiles x = new DirtyTiles();
            x.fill(4 + place % 4, 4 + place / 4, 1, 1, 7);
            x.fill(4 + (place + 1) % 4, 4 + (place + 1) / 4, 1, 1, 7);
            Check.due("cells " + place + " and the next", 3, () -> x.runs(5));
        }
        // One below the other they are no neighbours.
        DirtyTiles y = new DirtyTiles();
        y.fill(5, 5, 1, 2, 7);
        Check.due("one below the other", 5, () -> y.runs(5));
        // The next cell on the screen is of another tile.
        DirtyTiles z = new DirtyTiles();
        z.fill(7, 4, 2, 1, 7);
        Check.due("the last cell of a row", 3, () -> z.runs(5));
        Check.due("the first cell of the tile at the right", 2, () -> z.runs(6));
    }

    private static void drawingFillsOrCopies() {
        Sentences.of(TERMS, "Drawing fills a box with a colour, or copies a box to another place");
        DirtyTiles x = new DirtyTiles();
        Check.due("fill", 6, () -> x.fill(2, 3, 3, 2, 9));
        Check.due("copy", 6, () -> x.copy(2, 3, 3, 2, 8, 6));
        for (int row = 0; row < 12; row++) {
            for (int column = 0; column < 16; column++) {
                boolean filled = column >= 2 && column <= 4 && row >= 3 && row <= 4;
                boolean copied = column >= 10 && column <= 12 && row >= 9 && row <= 10;
                Scenes.colourIs("drawn", x, column, row, filled || copied ? 9 : 0);
            }
        }
    }

    private static void copyBeyondTheScreenIsLeftOut() {
        Sentences.of(TERMS, "cells of a copy that would lie beyond the screen are left out");
        for (int right = -15; right <= 15; right++) {
            for (int down = -11; down <= 11; down++) {
                wholeScreenCopied(right, down);
            }
        }
        DirtyTiles x = Scenes.colourful();
        Check.due("all of it beyond at the right", 0, () -> x.copy(15, 0, 1, 12, 1, 0));
        Check.due("all of it beyond at the left", 0, () -> x.copy(0, 0, 1, 12, -1, 0));
        Check.due("all of it beyond at the bottom", 0, () -> x.copy(0, 11, 16, 1, 0, 1));
        Check.due("all of it beyond at the top", 0, () -> x.copy(0, 0, 16, 1, 0, -1));
        Check.due("all of it beyond a corner", 0, () -> x.copy(8, 6, 8, 6, 15, 11));
    }

    private static void wholeScreenCopied(int right, int down) {
        DirtyTiles x = Scenes.colourful();
        x.copy(0, 0, 16, 12, right, down);
        for (int row = 0; row < 12; row++) {
            for (int column = 0; column < 16; column++) {
                int fromColumn = column - right;
                int fromRow = row - down;
                boolean from = fromColumn >= 0 && fromColumn < 16 && fromRow >= 0 && fromRow < 12;
                Scenes.colourIs("by " + right + ", " + down, x, column, row, from
                        ? Scenes.colourfulAt(fromColumn, fromRow)
                        : Scenes.colourfulAt(column, row));
            }
        }
    }

    private static void copyTakesCellsAsTheyWere() {
        Sentences.of(TERMS, "all cells are taken as they were before the copy");
        // A box that overlaps the place that it is copied to, in each direction.
        for (int right = -3; right <= 3; right++) {
            for (int down = -3; down <= 3; down++) {
                DirtyTiles x = Scenes.colourful();
                x.copy(4, 4, 6, 5, right, down);
                for (int row = 4; row < 9; row++) {
                    for (int column = 4; column < 10; column++) {
                        Scenes.colourIs("by " + right + ", " + down, x, column + right, row + down,
                                Scenes.colourfulAt(column, row));
                    }
                }
            }
        }
    }

    private static void oneCellMakesDirty() {
        Sentences.of(TERMS, "A tile of which at least one cell has another colour by a drawing "
                + "becomes dirty");
        DirtyTiles x = Scenes.settled();
        x.fill(0, 0, 16, 12, 0);
        Scenes.dirtyIs("a fill by which no cell has another colour", x, 0);
        x.copy(0, 0, 15, 11, 1, 1);
        Scenes.dirtyIs("a copy by which no cell has another colour", x, 0);
        x.fill(11, 7, 1, 1, 1);
        Scenes.dirtyIs("a fill by which one cell has", x, 0, 6);
        x.copy(11, 7, 1, 1, 1, 1);
        Scenes.dirtyIs("a copy by which one cell has", x, 0, 6, 11);
        // All but one cell of the box have the colour already.
        DirtyTiles y = Scenes.settled();
        y.fill(0, 0, 16, 12, 4);
        y.fill(9, 2, 1, 1, 5);
        Scenes.settle(y, 0);
        Check.due("one cell", 1, () -> y.fill(0, 0, 16, 12, 4));
        Scenes.dirtyIs("a big box, one cell", y, 0, 2);
        Scenes.settle(y, 0);
        y.fill(9, 2, 1, 1, 5);
        y.fill(9, 2, 1, 1, 4);
        Scenes.dirtyIs("drawn back it is dirty all the same", y, 0, 2);
    }

    private static void dirtyForAllThatHaveJoined() {
        Sentences.of(TERMS, "becomes dirty for all clients that have joined");
        DirtyTiles x = new DirtyTiles();
        x.fill(8, 8, 1, 1, 1);
        x.join(1);
        Scenes.settle(x, 1);
        x.fill(8, 4, 1, 1, 1);
        Scenes.dirtyIs("the one that has joined", x, 1, 6);
        Check.thrown("the one that has not", Check.STATE, () -> x.dirty(0));
        x.join(0);
        Scenes.dirtyIs("it joins later", x, 0, Scenes.ALL_TILES);
        Scenes.settle(x, 0);
        x.fill(0, 0, 1, 1, 1);
        Scenes.dirtyIs("client 0", x, 0, 0);
        Scenes.dirtyIs("client 1", x, 1, 6, 0);
    }
}
