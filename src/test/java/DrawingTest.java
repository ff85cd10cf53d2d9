/** Promises 1 to 4: a new object, fill, copy, colour. */
public final class DrawingTest {
    public static void main(String[] args) {
        newObject();
        fillCounts();
        fillRefuses();
        fillChangesNothingWhenItThrows();
        fillMakesDirty();
        copyMoves();
        copyOverlapping();
        copyLeavesOutWhatIsBeyond();
        copyRefuses();
        copyMakesDirty();
        colourAnswers();
        Check.end();
    }

    private static void newObject() {
        DirtyTiles x = new DirtyTiles();
        for (int row = 0; row < 12; row++) {
            for (int column = 0; column < 16; column++) {
                colourIs(x, column, row, 0);
            }
        }
        for (int client = 0; client < 2; client++) {
            int c = client;
            Check.thrown("P1 dirty ahead of join", Check.STATE, () -> x.dirty(c));
        }
        Check.due("P1 units", 0, () -> x.units());
        for (int way = 0; way < 5; way++) {
            int w = way;
            Check.due("P1 written", 0, () -> x.written(w));
        }
    }

    private static void fillCounts() {
        DirtyTiles x = new DirtyTiles();
        Check.due("P2 colour as it was", 0, () -> x.fill(0, 0, 16, 12, 0));
        Check.due("P2 a box", 12, () -> x.fill(3, 2, 4, 3, 7));
        Check.due("P2 the same box", 0, () -> x.fill(3, 2, 4, 3, 7));
        Check.due("P2 a box that overlaps", 16 - 6, () -> x.fill(5, 2, 4, 4, 7));
        Check.due("P2 the whole screen", 192, () -> x.fill(0, 0, 16, 12, 15));
        Check.due("P2 the last cell", 1, () -> x.fill(15, 11, 1, 1, 1));
        Check.due("P2 the first cell", 1, () -> x.fill(0, 0, 1, 1, 1));
        colourIs(x, 15, 11, 1);
        colourIs(x, 0, 0, 1);
        colourIs(x, 14, 11, 15);
        colourIs(x, 15, 10, 15);
        DirtyTiles y = new DirtyTiles();
        y.fill(3, 2, 4, 3, 7);
        for (int row = 0; row < 12; row++) {
            for (int column = 0; column < 16; column++) {
                boolean in = column >= 3 && column < 7 && row >= 2 && row < 5;
                colourIs(y, column, row, in ? 7 : 0);
            }
        }
    }

    private static void fillRefuses() {
        int[][] refused = {
            {-1, 0, 1, 1, 0}, {16, 0, 1, 1, 0}, {0, -1, 1, 1, 0}, {0, 12, 1, 1, 0},
            {0, 0, 0, 1, 0}, {0, 0, 17, 1, 0}, {15, 0, 2, 1, 0}, {0, 0, -1, 1, 0},
            {0, 0, 1, 0, 0}, {0, 0, 1, 13, 0}, {0, 11, 1, 2, 0}, {0, 0, 1, -1, 0},
            {0, 0, 1, 1, -1}, {0, 0, 1, 1, 16},
            {Integer.MIN_VALUE, 0, 1, 1, 0}, {Integer.MAX_VALUE, 0, 1, 1, 0},
            {0, Integer.MIN_VALUE, 1, 1, 0}, {0, Integer.MAX_VALUE, 1, 1, 0},
            {1, 0, Integer.MAX_VALUE, 1, 0}, {1, 0, Integer.MIN_VALUE, 1, 0},
            {0, 1, 1, Integer.MAX_VALUE, 0}, {0, 1, 1, Integer.MIN_VALUE, 0},
            {0, 0, 1, 1, Integer.MAX_VALUE}, {0, 0, 1, 1, Integer.MIN_VALUE},
        };
        DirtyTiles x = new DirtyTiles();
        for (int[] p : refused) {
            Check.thrown("P2 fill" + java.util.Arrays.toString(p), Check.ARGUMENT,
                    () -> x.fill(p[0], p[1], p[2], p[3], p[4]));
        }
    }

    private static void fillChangesNothingWhenItThrows() {
        DirtyTiles x = new DirtyTiles();
        x.join(0);
        x.ask(0, 300);
        Check.thrown("P2 colour 16", Check.ARGUMENT, () -> x.fill(0, 0, 16, 12, 16));
        Check.thrown("P2 13 rows", Check.ARGUMENT, () -> x.fill(0, 0, 16, 13, 1));
        Check.due("P2 nothing dirty", 0, () -> x.dirty(0));
        colourIs(x, 0, 0, 0);
    }

    private static void fillMakesDirty() {
        DirtyTiles x = new DirtyTiles();
        x.join(1);
        x.ask(1, 300);
        x.fill(4, 0, 4, 4, 3);
        x.fill(3, 3, 6, 2, 3);
        Check.due("P2 dirty tiles", 6, () -> x.dirty(1));
        int[] order = {1, 0, 2, 4, 5, 6};
        for (int index = 0; index < order.length; index++) {
            int i = index;
            Check.due("P2 dirtyAt " + i, order[i], () -> x.dirtyAt(1, i));
        }
        x.fill(12, 8, 4, 4, 0);
        Check.due("P2 no cell with another colour", 6, () -> x.dirty(1));
        Check.thrown("P2 not joined", Check.STATE, () -> x.dirty(0));
    }

    private static void copyMoves() {
        DirtyTiles x = new DirtyTiles();
        x.fill(0, 0, 2, 1, 5);
        x.fill(0, 1, 2, 1, 6);
        Check.due("P3 to a free place", 4, () -> x.copy(0, 0, 2, 2, 9, 7));
        colourIs(x, 9, 7, 5);
        colourIs(x, 10, 7, 5);
        colourIs(x, 9, 8, 6);
        colourIs(x, 10, 8, 6);
        colourIs(x, 11, 7, 0);
        colourIs(x, 9, 9, 0);
        colourIs(x, 0, 0, 5);
        Check.due("P3 once more", 0, () -> x.copy(0, 0, 2, 2, 9, 7));
        Check.due("P3 to its own place", 0, () -> x.copy(0, 0, 16, 12, 0, 0));
        Check.due("P3 back and down", 4, () -> x.copy(9, 7, 2, 2, -9, 3));
        colourIs(x, 0, 10, 5);
        colourIs(x, 1, 11, 6);
    }

    private static void copyOverlapping() {
        for (int step = -1; step <= 1; step += 2) {
            int move = step;
            DirtyTiles x = new DirtyTiles();
            DirtyTiles y = new DirtyTiles();
            for (int place = 0; place < 12; place++) {
                x.fill(place, 0, 1, 1, place + 1);
                y.fill(0, place, 1, 1, place + 1);
            }
            Check.due("P3 along a row", 10, () -> x.copy(1, 0, 10, 1, move, 0));
            Check.due("P3 along a column", 10, () -> y.copy(0, 1, 1, 10, 0, move));
            for (int place = 1; place <= 10; place++) {
                colourIs(x, place + move, 0, place + 1);
                colourIs(y, 0, place + move, place + 1);
            }
        }
    }

    private static void copyLeavesOutWhatIsBeyond() {
        DirtyTiles x = new DirtyTiles();
        x.fill(0, 0, 16, 12, 4);
        x.fill(0, 0, 8, 6, 9);
        Check.due("P3 most right and down", 1, () -> x.copy(0, 0, 16, 12, 15, 11));
        colourIs(x, 15, 11, 9);
        colourIs(x, 14, 11, 4);
        colourIs(x, 15, 10, 4);
        DirtyTiles y = new DirtyTiles();
        y.fill(15, 11, 1, 1, 3);
        Check.due("P3 most left and up", 1, () -> y.copy(0, 0, 16, 12, -15, -11));
        colourIs(y, 0, 0, 3);
        colourIs(y, 1, 0, 0);
        colourIs(y, 0, 1, 0);
        Check.due("P3 all of it beyond", 0, () -> y.copy(15, 11, 1, 1, 1, 0));
        Check.due("P3 all of it beyond", 0, () -> y.copy(15, 11, 1, 1, 0, 1));
        Check.due("P3 all of it beyond", 0, () -> y.copy(0, 0, 1, 1, -1, 0));
        Check.due("P3 all of it beyond", 0, () -> y.copy(0, 0, 1, 1, 0, -1));
    }

    private static void copyRefuses() {
        int[][] refused = {
            {-1, 0, 1, 1, 0, 0}, {16, 0, 1, 1, 0, 0}, {0, -1, 1, 1, 0, 0}, {0, 12, 1, 1, 0, 0},
            {0, 0, 0, 1, 0, 0}, {0, 0, 17, 1, 0, 0}, {15, 0, 2, 1, 0, 0},
            {0, 0, 1, 0, 0, 0}, {0, 0, 1, 13, 0, 0}, {0, 11, 1, 2, 0, 0},
            {0, 0, 1, 1, 16, 0}, {0, 0, 1, 1, -16, 0}, {0, 0, 1, 1, 0, 12}, {0, 0, 1, 1, 0, -12},
            {1, 0, Integer.MAX_VALUE, 1, 0, 0}, {0, 1, 1, Integer.MAX_VALUE, 0, 0},
            {0, 0, 1, 1, Integer.MAX_VALUE, 0}, {0, 0, 1, 1, Integer.MIN_VALUE, 0},
            {0, 0, 1, 1, 0, Integer.MAX_VALUE}, {0, 0, 1, 1, 0, Integer.MIN_VALUE},
            {Integer.MIN_VALUE, 0, 1, 1, 0, 0}, {0, Integer.MIN_VALUE, 1, 1, 0, 0},
        };
        DirtyTiles x = new DirtyTiles();
        x.fill(0, 0, 1, 1, 1);
        for (int[] p : refused) {
            Check.thrown("P3 copy" + java.util.Arrays.toString(p), Check.ARGUMENT,
                    () -> x.copy(p[0], p[1], p[2], p[3], p[4], p[5]));
        }
        Check.due("P3 nothing was changed", 191, () -> x.fill(0, 0, 16, 12, 1));
    }

    private static void copyMakesDirty() {
        DirtyTiles x = new DirtyTiles();
        x.join(0);
        x.fill(0, 0, 1, 1, 2);
        x.ask(0, 300);
        x.copy(0, 0, 2, 1, 14, 8);
        Check.due("P3 one tile dirty", 1, () -> x.dirty(0));
        Check.due("P3 that tile", 11, () -> x.dirtyAt(0, 0));
        x.copy(0, 0, 1, 1, 0, 0);
        Check.due("P3 unchanged tile", 1, () -> x.dirty(0));
    }

    private static void colourAnswers() {
        DirtyTiles x = new DirtyTiles();
        for (int row = 0; row < 12; row++) {
            for (int column = 0; column < 16; column++) {
                x.fill(column, row, 1, 1, (5 * column + 3 * row) % 16);
            }
        }
        for (int row = 0; row < 12; row++) {
            for (int column = 0; column < 16; column++) {
                colourIs(x, column, row, (5 * column + 3 * row) % 16);
            }
        }
        int[][] refused = {{-1, 0}, {16, 0}, {0, -1}, {0, 12},
            {Integer.MAX_VALUE, 0}, {0, Integer.MIN_VALUE}};
        for (int[] p : refused) {
            Check.thrown("P4 colour" + java.util.Arrays.toString(p), Check.ARGUMENT,
                    () -> x.colour(p[0], p[1]));
        }
    }

    private static void colourIs(DirtyTiles x, int column, int row, int want) {
        Check.due("P4 colour(" + column + ", " + row + ")", want, () -> x.colour(column, row));
    }
}
