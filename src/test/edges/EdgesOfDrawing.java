/** Promises 1 to 4, at their edges: a new object, fill, copy, colour. */
final class EdgesOfDrawing {
    private static final String NEW = "Promise 1: A new object";
    private static final String FILL = "Promise 2: fill";
    private static final String COPY = "Promise 3: copy";
    private static final String COLOUR = "Promise 4: colour";
    private static final int LEAST = Integer.MIN_VALUE;
    private static final int MOST = Integer.MAX_VALUE;

    private EdgesOfDrawing() {
    }

    static void look() {
        newScreenInTheColour0();
        newWithoutClients();
        fillABox();
        fillColumn();
        fillRow();
        fillWide();
        fillHigh();
        fillColour();
        fillReturns();
        fillThrows();
        copyABox();
        copyColumn();
        copyRow();
        copyWide();
        copyHigh();
        copyRight();
        copyDown();
        copyReturns();
        copyThrows();
        colourOfACell();
        colourColumn();
        colourRow();
        colourReturns();
        colourThrows();
    }

    private static void newScreenInTheColour0() {
        Sentences.of(NEW, "Creates a server with a screen in the colour 0");
        DirtyTiles x = new DirtyTiles();
        for (int row = 0; row < 12; row++) {
            for (int column = 0; column < 16; column++) {
                Scenes.colourIs("new", x, column, row, 0);
            }
        }
        Check.due("no cell differs from 0", 0, () -> x.fill(0, 0, 16, 12, 0));
        // An object that was drawn on leaves the next one as it is.
        x.fill(0, 0, 16, 12, 8);
        DirtyTiles y = new DirtyTiles();
        Scenes.colourIs("another new one", y, 15, 11, 0);
        Check.due("units", 0, () -> y.units());
        for (int way = 0; way < 5; way++) {
            int w = way;
            Check.due("written " + w, 0, () -> y.written(w));
        }
    }

    private static void newWithoutClients() {
        Sentences.of(NEW, "no client has joined");
        for (int client = 0; client < 2; client++) {
            int c = client;
            DirtyTiles x = new DirtyTiles();
            Check.thrown("way", Check.STATE, () -> x.way(c, 0));
            Check.thrown("ask", Check.STATE, () -> x.ask(c, 300));
            Check.thrown("answer", Check.STATE, () -> x.answer(c));
            Check.thrown("shown", Check.STATE, () -> x.shown(c, 0, 0));
            Check.thrown("unlike", Check.STATE, () -> x.unlike(c));
            Check.thrown("dirty", Check.STATE, () -> x.dirty(c));
            Check.thrown("dirtyAt", Check.STATE, () -> x.dirtyAt(c, 0));
            Check.thrown("cached", Check.STATE, () -> x.cached(c));
            Check.thrown("isAlike", Check.STATE, () -> x.isAlike(c) ? 1 : 0);
        }
    }

    private static void fillABox() {
        Sentences.of(FILL, "Fills a box.");
        int[][] boxes = {{0, 0, 1, 1}, {15, 11, 1, 1}, {15, 0, 1, 12}, {0, 11, 16, 1},
            {0, 0, 16, 12}, {3, 3, 2, 2}, {4, 4, 4, 4}, {1, 2, 15, 10}};
        for (int[] box : boxes) {
            DirtyTiles x = new DirtyTiles();
            int cells = box[2] * box[3];
            Check.due("cells", cells, () -> x.fill(box[0], box[1], box[2], box[3], 15));
            for (int row = 0; row < 12; row++) {
                for (int column = 0; column < 16; column++) {
                    boolean in = column >= box[0] && column < box[0] + box[2]
                            && row >= box[1] && row < box[1] + box[3];
                    Scenes.colourIs("filled", x, column, row, in ? 15 : 0);
                }
            }
        }
    }

    private static void fillColumn() {
        Sentences.of(FILL, "- `column`: its first column, 0 to 15");
        Edges.range(0, 15, DirtyTiles::new, (x, v) -> x.fill(v, 3, 1, 1, 7), v -> 1);
    }

    private static void fillRow() {
        Sentences.of(FILL, "- `row`: its first row, 0 to 11");
        Edges.range(0, 11, DirtyTiles::new, (x, v) -> x.fill(3, v, 1, 1, 7), v -> 1);
    }

    private static void fillWide() {
        Sentences.of(FILL, "- `wide`: its columns, 1 to 16 - column");
        for (int column = 0; column < 16; column++) {
            int c = column;
            Edges.range(1, 16 - c, DirtyTiles::new, (x, v) -> x.fill(c, 5, v, 2, 7), v -> 2 * v);
        }
    }

    private static void fillHigh() {
        Sentences.of(FILL, "- `high`: its rows, 1 to 12 - row");
        for (int row = 0; row < 12; row++) {
            int r = row;
            Edges.range(1, 12 - r, DirtyTiles::new, (x, v) -> x.fill(5, r, 2, v, 7), v -> 2 * v);
        }
    }

    private static void fillColour() {
        Sentences.of(FILL, "- `colour`: 0 to 15");
        Edges.range(0, 15, DirtyTiles::new, (x, v) -> x.fill(2, 2, 3, 3, v), v -> v == 0 ? 0 : 9);
    }

    private static void fillReturns() {
        Sentences.of(FILL, "Returns how many cells have another colour by that.");
        DirtyTiles x = new DirtyTiles();
        Check.due("none", 0, () -> x.fill(0, 0, 16, 12, 0));
        Check.due("one", 1, () -> x.fill(7, 7, 1, 1, 3));
        Check.due("the same once more", 0, () -> x.fill(7, 7, 1, 1, 3));
        Check.due("all but that one", 191, () -> x.fill(0, 0, 16, 12, 3));
        Check.due("all", 192, () -> x.fill(0, 0, 16, 12, 4));
        Check.due("a part", 20, () -> x.fill(2, 2, 5, 4, 5));
        Check.due("a box over that part", 30 - 12, () -> x.fill(4, 2, 5, 6, 5));
    }

    private static void fillThrows() {
        Sentences.of(FILL, "Throws `IllegalArgumentException` if one of the parameters is out of "
                + "range");
        int[][] wrong = {{-1, 0, 1, 1, 0}, {0, 12, 1, 1, 0}, {8, 0, 9, 1, 0}, {0, 6, 1, 7, 0},
            {0, 0, 1, 1, 16}, {-1, -1, 0, 0, -1}, {16, 12, 17, 13, 16}, {16, 0, 0, 1, 0},
            {-1, 0, 17, 1, 0}, {0, -1, 1, 13, 0}, {LEAST, 0, MOST, 1, 0}, {0, LEAST, 1, MOST, 0},
            {LEAST, LEAST, LEAST, LEAST, LEAST}, {MOST, MOST, MOST, MOST, MOST}};
        DirtyTiles x = new DirtyTiles();
        for (int[] p : wrong) {
            Check.thrown("with " + java.util.Arrays.toString(p), Check.ARGUMENT,
                    () -> x.fill(p[0], p[1], p[2], p[3], p[4]));
        }
    }

    private static void copyABox() {
        Sentences.of(COPY, "Copies a box.");
        int[][] all = {{0, 0, 1, 1, 15, 11}, {15, 11, 1, 1, -15, -11}, {0, 0, 8, 12, 8, 0},
            {0, 6, 16, 6, 0, -6}, {4, 4, 4, 4, -4, 4}, {3, 2, 5, 3, 6, 5}, {2, 2, 3, 3, 0, 0}};
        for (int[] p : all) {
            DirtyTiles x = Scenes.colourful();
            x.copy(p[0], p[1], p[2], p[3], p[4], p[5]);
            for (int row = 0; row < 12; row++) {
                for (int column = 0; column < 16; column++) {
                    int fromColumn = column - p[4];
                    int fromRow = row - p[5];
                    boolean in = fromColumn >= p[0] && fromColumn < p[0] + p[2]
                            && fromRow >= p[1] && fromRow < p[1] + p[3];
                    Scenes.colourIs("copied", x, column, row, in
                            ? Scenes.colourfulAt(fromColumn, fromRow)
                            : Scenes.colourfulAt(column, row));
                }
            }
        }
    }

    private static void copyColumn() {
        Sentences.of(COPY, "- `column`: its first column, 0 to 15");
        Edges.range(0, 15, Scenes::colourful, (x, v) -> x.copy(v, 3, 1, 1, 0, 1), v -> 1);
    }

    private static void copyRow() {
        Sentences.of(COPY, "- `row`: its first row, 0 to 11");
        Edges.range(0, 11, Scenes::colourful, (x, v) -> x.copy(3, v, 1, 1, 1, 0), v -> 1);
    }

    private static void copyWide() {
        Sentences.of(COPY, "- `wide`: its columns, 1 to 16 - column");
        for (int column = 0; column < 16; column++) {
            int c = column;
            Edges.range(1, 16 - c, Scenes::colourful, (x, v) -> x.copy(c, 5, v, 2, 0, 1),
                    v -> 2 * v);
        }
    }

    private static void copyHigh() {
        Sentences.of(COPY, "- `high`: its rows, 1 to 12 - row");
        for (int row = 0; row < 12; row++) {
            int r = row;
            Edges.range(1, 12 - r, Scenes::colourful, (x, v) -> x.copy(5, r, 2, v, -1, 0),
                    v -> 2 * v);
        }
    }

    private static void copyRight() {
        Sentences.of(COPY, "- `right`: by how many columns it is moved, -15 to 15");
        // Within a row, no two cells have the same colour.
        Edges.range(-15, 15, Scenes::colourful, (x, v) -> x.copy(0, 4, 16, 1, v, 0),
                v -> v == 0 ? 0 : 16 - Math.abs(v));
    }

    private static void copyDown() {
        Sentences.of(COPY, "- `down`: by how many rows it is moved, -11 to 11");
        Edges.range(-11, 11, Scenes::colourful, (x, v) -> x.copy(4, 0, 1, 12, 0, v),
                v -> v == 0 ? 0 : 12 - Math.abs(v));
    }

    private static void copyReturns() {
        Sentences.of(COPY, "Returns how many cells have another colour by that.");
        DirtyTiles x = Scenes.colourful();
        Check.due("none, to its own place", 0, () -> x.copy(0, 0, 16, 12, 0, 0));
        Check.due("none, all beyond", 0, () -> x.copy(12, 0, 4, 12, 4, 0));
        Check.due("one", 1, () -> x.copy(0, 0, 1, 1, 15, 11));
        Check.due("the same once more", 0, () -> x.copy(0, 0, 1, 1, 15, 11));
        DirtyTiles y = Scenes.colourful();
        Check.due("as many as can", 180, () -> y.copy(0, 0, 16, 12, -1, 0));
        DirtyTiles z = new DirtyTiles();
        z.fill(0, 0, 3, 2, 6);
        z.fill(10, 0, 1, 2, 6);
        Check.due("some have that colour already", 4, () -> z.copy(0, 0, 3, 2, 9, 0));
        Check.due("no colour is another", 0, () -> z.copy(0, 5, 16, 4, 3, 2));
    }

    private static void copyThrows() {
        Sentences.of(COPY, "Throws `IllegalArgumentException` if one of the parameters is out of "
                + "range");
        int[][] wrong = {{-1, 0, 1, 1, 0, 0}, {0, 12, 1, 1, 0, 0}, {8, 0, 9, 1, 0, 0},
            {0, 6, 1, 7, 0, 0}, {0, 0, 1, 1, 16, 0}, {0, 0, 1, 1, -16, 0}, {0, 0, 1, 1, 0, 12},
            {0, 0, 1, 1, 0, -12}, {-1, -1, 0, 0, -16, -12}, {16, 12, 17, 13, 16, 12},
            {-1, 0, 17, 1, 1, 0}, {0, -1, 1, 13, 0, 1}, {LEAST, 0, MOST, 1, MOST, 0},
            {LEAST, LEAST, LEAST, LEAST, LEAST, LEAST}, {MOST, MOST, MOST, MOST, MOST, MOST}};
        DirtyTiles x = Scenes.colourful();
        for (int[] p : wrong) {
            Check.thrown("with " + java.util.Arrays.toString(p), Check.ARGUMENT,
                    () -> x.copy(p[0], p[1], p[2], p[3], p[4], p[5]));
        }
    }

    private static void colourOfACell() {
        Sentences.of(COLOUR, "Returns the colour of a cell.");
        DirtyTiles x = Scenes.colourful();
        for (int row = 0; row < 12; row++) {
            for (int column = 0; column < 16; column++) {
                Scenes.colourIs("painted", x, column, row, Scenes.colourfulAt(column, row));
            }
        }
    }

    private static void colourColumn() {
        Sentences.of(COLOUR, "- `column`: 0 to 15");
        Edges.range(0, 15, Scenes::colourful, (x, v) -> x.colour(v, 11),
                v -> Scenes.colourfulAt(v, 11));
    }

    private static void colourRow() {
        Sentences.of(COLOUR, "- `row`: 0 to 11");
        Edges.range(0, 11, Scenes::colourful, (x, v) -> x.colour(15, v),
                v -> Scenes.colourfulAt(15, v));
    }

    private static void colourReturns() {
        Sentences.of(COLOUR, "Returns the colour.");
        for (int colour = 0; colour < 16; colour++) {
            DirtyTiles x = new DirtyTiles();
            x.fill(6, 6, 1, 1, colour);
            Scenes.colourIs("that colour", x, 6, 6, colour);
            Scenes.colourIs("its neighbour", x, 7, 6, 0);
            Scenes.colourIs("its neighbour", x, 5, 6, 0);
        }
    }

    private static void colourThrows() {
        Sentences.of(COLOUR, "Throws `IllegalArgumentException` if column or row is out of range");
        DirtyTiles x = Scenes.colourful();
        int[][] wrong = {{-1, 0}, {16, 0}, {0, -1}, {0, 12}, {-1, -1}, {16, 12}, {-1, 12},
            {LEAST, MOST}, {MOST, LEAST}, {16, -1}};
        for (int[] p : wrong) {
            Check.thrown("with " + p[0] + ", " + p[1], Check.ARGUMENT, () -> x.colour(p[0], p[1]));
        }
    }
}
