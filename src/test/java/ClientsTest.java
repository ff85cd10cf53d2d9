/** Promises 8 to 18: from join to units. */
public final class ClientsTest {
    private static final int[] NO_CLIENTS = {-1, 2, Integer.MAX_VALUE, Integer.MIN_VALUE};

    public static void main(String[] args) {
        joining();
        joiningAnew();
        askingWithinBudget();
        askingEndsAtTheFirstThatIsTooDear();
        askingWithNothingDirty();
        askingRefuses();
        answering();
        answeringBringsTheCellsOfTheMessage();
        answeringRefuses();
        showing();
        countingUnlike();
        dirtyKeepsItsPlace();
        dirtyRefuses();
        cachedAndAlike();
        cacheMovesToTheFront();
        writtenAndUnits();
        everyWayIsCounted();
        slowClientGetsTheLastPicture();
        Check.end();
    }

    private static void joining() {
        DirtyTiles x = new DirtyTiles();
        x.fill(0, 0, 16, 12, 5);
        Check.due("P8 join", 12, () -> x.join(1));
        Scenes.dirtyIs("P8 in the order of their numbers", x, 1, Scenes.ALL_TILES);
        Check.due("P8 empty cache", 0, () -> x.cached(1));
        Check.due("P8 alike", 1, () -> x.isAlike(1) ? 1 : 0);
        Check.due("P8 colour 0", 0, () -> x.shown(1, 3, 3));
        Check.due("P8 all unlike", 192, () -> x.unlike(1));
        Check.thrown("P8 no message", Check.STATE, () -> x.answer(1));
        Check.thrown("P8 the other has not joined", Check.STATE, () -> x.dirty(0));
        for (int client : NO_CLIENTS) {
            Check.thrown("P8 client " + client, Check.ARGUMENT, () -> x.join(client));
        }
    }

    private static void joiningAnew() {
        DirtyTiles x = Scenes.settled();
        x.fill(0, 0, 16, 12, 5);
        x.ask(0, 300);
        x.answer(0);
        x.fill(8, 8, 1, 1, 6);
        x.ask(0, 300);
        int units = x.units();
        Check.due("P8 join anew", 12, () -> x.join(0));
        Scenes.dirtyIs("P8 anew", x, 0, Scenes.ALL_TILES);
        Check.thrown("P8 message is gone", Check.STATE, () -> x.answer(0));
        Check.due("P8 cache is gone", 0, () -> x.cached(0));
        Check.due("P8 alike", 1, () -> x.isAlike(0) ? 1 : 0);
        Check.due("P8 screen is gone", 0, () -> x.shown(0, 0, 0));
        Check.due("P8 not cached at the server", 103, () -> x.way(0, 0));
        Check.due("P8 the other is as it was", 1, () -> x.cached(1));
        Check.due("P8 units stay", units, () -> x.units());
        Check.due("P8 may ask at once", 12, () -> x.ask(0, 300));
    }

    private static void askingWithinBudget() {
        // All tiles have the colour 0: the first takes 3 units, each later one 2.
        int[][] cases = {{0, 0}, {2, 0}, {3, 1}, {4, 1}, {5, 2}, {24, 11}, {25, 12}, {300, 12}};
        for (int[] each : cases) {
            DirtyTiles x = Scenes.joined();
            Check.due("P9 budget " + each[0], each[1], () -> x.ask(0, each[0]));
            Check.due("P9 the others stay dirty", 12 - each[1], () -> x.dirty(0));
            Check.due("P9 cache of the client as it was", 0, () -> x.cached(0));
            if (each[1] == 0) {
                Check.thrown("P9 no message", Check.STATE, () -> x.answer(0));
                Check.due("P9 may ask again", 12, () -> x.ask(0, 300));
            } else {
                Check.thrown("P9 has a message", Check.STATE, () -> x.ask(0, 300));
                Check.due("P9 the first that stays", each[1], () ->
                        each[1] < 12 ? x.dirtyAt(0, 0) : 12);
            }
        }
    }

    private static void askingEndsAtTheFirstThatIsTooDear() {
        DirtyTiles x = Scenes.settled();
        x.fill(0, 0, 4, 4, 1);
        for (int cell = 0; cell < 16; cell++) {
            x.fill(4 + cell % 4, cell / 4, 1, 1, cell);
        }
        x.fill(8, 0, 4, 4, 2);
        Scenes.dirtyIs("P9 ahead", x, 0, 0, 1, 2);
        Check.due("P9 cheaper tiles don't overtake", 1, () -> x.ask(0, 19));
        Scenes.dirtyIs("P9 after it", x, 0, 1, 2);
        x.answer(0);
        Check.due("P9 the dear one is the first now", 0, () -> x.ask(0, 16));
        Check.due("P9 it just fits", 1, () -> x.ask(0, 17));
        Scenes.dirtyIs("P9 in the end", x, 0, 2);
        Scenes.dirtyIs("P9 the other client", x, 1, 0, 1, 2);
    }

    private static void askingWithNothingDirty() {
        DirtyTiles x = Scenes.settled();
        int units = x.units();
        Check.due("P9 nothing to tell", 0, () -> x.ask(0, 300));
        Check.thrown("P9 nothing to answer", Check.STATE, () -> x.answer(0));
        Check.due("P9 once more", 0, () -> x.ask(0, 0));
        Check.due("P9 no units", units, () -> x.units());
    }

    private static void askingRefuses() {
        DirtyTiles x = new DirtyTiles();
        Check.thrown("P9 not joined", Check.STATE, () -> x.ask(0, 300));
        Check.thrown("P9 budget ahead of state", Check.ARGUMENT, () -> x.ask(0, 301));
        x.join(0);
        int[] budgets = {-1, 301, Integer.MAX_VALUE, Integer.MIN_VALUE};
        for (int budget : budgets) {
            Check.thrown("P9 budget " + budget, Check.ARGUMENT, () -> x.ask(0, budget));
        }
        for (int client : NO_CLIENTS) {
            Check.thrown("P9 client " + client, Check.ARGUMENT, () -> x.ask(client, 300));
        }
        x.ask(0, 5);
        Check.thrown("P9 unanswered", Check.STATE, () -> x.ask(0, 5));
        Check.thrown("P9 unanswered, wrong budget", Check.ARGUMENT, () -> x.ask(0, -1));
        Check.due("P9 dirty as it was", 10, () -> x.dirty(0));
        Check.due("P9 units as they were", 5, () -> x.units());
        Check.due("P9 the message as it was", 2, () -> x.answer(0));
        Check.due("P9 may ask again", 1, () -> x.ask(0, 2));
    }

    private static void answering() {
        DirtyTiles x = Scenes.joined();
        x.fill(0, 0, 16, 12, 9);
        x.ask(0, 7);
        Check.due("P10 not ahead of the answer", 0, () -> x.shown(0, 0, 0));
        Check.due("P10 three tiles", 3, () -> x.answer(0));
        Check.due("P10 the first tile", 9, () -> x.shown(0, 0, 0));
        Check.due("P10 the last cell of the third", 9, () -> x.shown(0, 11, 3));
        Check.due("P10 not the fourth", 0, () -> x.shown(0, 12, 0));
        Check.due("P10 not the fifth", 0, () -> x.shown(0, 0, 4));
        Check.thrown("P10 only once", Check.STATE, () -> x.answer(0));
    }

    private static void answeringBringsTheCellsOfTheMessage() {
        DirtyTiles x = Scenes.settled();
        x.fill(4, 4, 4, 4, 7);
        x.ask(0, 300);
        x.fill(4, 4, 4, 4, 8);
        Scenes.dirtyIs("P10 dirty again", x, 0, 5);
        x.answer(0);
        Check.due("P10 as it was when asked", 7, () -> x.shown(0, 4, 4));
        Check.due("P10 unlike", 16, () -> x.unlike(0));
        Scenes.dirtyIs("P10 still dirty", x, 0, 5);
        Check.due("P10 not cached", 103, () -> x.way(0, 5));
        x.ask(0, 300);
        x.answer(0);
        Check.due("P10 as it is now", 8, () -> x.shown(0, 7, 7));
        Check.due("P10 nothing unlike", 0, () -> x.unlike(0));
    }

    private static void answeringRefuses() {
        DirtyTiles x = new DirtyTiles();
        Check.thrown("P10 not joined", Check.STATE, () -> x.answer(0));
        x.join(0);
        Check.thrown("P10 no message", Check.STATE, () -> x.answer(0));
        x.ask(0, 300);
        Check.thrown("P10 the other has none", Check.STATE, () -> x.answer(1));
        for (int client : NO_CLIENTS) {
            Check.thrown("P10 client " + client, Check.ARGUMENT, () -> x.answer(client));
        }
        Check.due("P10 the message as it was", 12, () -> x.answer(0));
    }

    private static void showing() {
        DirtyTiles x = new DirtyTiles();
        Check.thrown("P11 not joined", Check.STATE, () -> x.shown(0, 0, 0));
        int[][] beyond = {{-1, 0}, {16, 0}, {0, -1}, {0, 12}, {Integer.MAX_VALUE, 0},
            {0, Integer.MIN_VALUE}};
        for (int[] p : beyond) {
            Check.thrown("P11 beyond, not joined", Check.ARGUMENT, () -> x.shown(0, p[0], p[1]));
        }
        for (int client : NO_CLIENTS) {
            Check.thrown("P11 client " + client, Check.ARGUMENT, () -> x.shown(client, 0, 0));
        }
        x.join(0);
        for (int row = 0; row < 12; row++) {
            for (int column = 0; column < 16; column++) {
                x.fill(column, row, 1, 1, (column * 7 + row) % 16);
            }
        }
        x.ask(0, 300);
        x.answer(0);
        for (int row = 0; row < 12; row++) {
            for (int column = 0; column < 16; column++) {
                int c = column;
                int r = row;
                Check.due("P11 shown", (c * 7 + r) % 16, () -> x.shown(0, c, r));
            }
        }
        for (int[] p : beyond) {
            Check.thrown("P11 beyond", Check.ARGUMENT, () -> x.shown(0, p[0], p[1]));
        }
        Check.thrown("P11 the other not joined", Check.STATE, () -> x.shown(1, 0, 0));
    }

    private static void countingUnlike() {
        DirtyTiles x = new DirtyTiles();
        Check.thrown("P12 not joined", Check.STATE, () -> x.unlike(0));
        x.fill(2, 2, 5, 5, 3);
        x.join(0);
        Check.due("P12 against a black screen", 25, () -> x.unlike(0));
        Check.due("P9 four runs", 1, () -> x.ask(0, 9));
        Check.due("P12 the message is not there yet", 25, () -> x.unlike(0));
        x.answer(0);
        Check.due("P12 one tile told", 21, () -> x.unlike(0));
        x.ask(0, 300);
        x.answer(0);
        Check.due("P12 all told", 0, () -> x.unlike(0));
        x.fill(15, 11, 1, 1, 15);
        x.fill(0, 0, 1, 1, 15);
        Check.due("P12 two cells", 2, () -> x.unlike(0));
        for (int client : NO_CLIENTS) {
            Check.thrown("P12 client " + client, Check.ARGUMENT, () -> x.unlike(client));
        }
        Check.thrown("P12 the other", Check.STATE, () -> x.unlike(1));
    }

    private static void dirtyKeepsItsPlace() {
        DirtyTiles x = Scenes.settled();
        x.fill(12, 8, 1, 1, 1);
        x.fill(4, 4, 8, 1, 1);
        x.fill(0, 0, 1, 1, 1);
        Scenes.dirtyIs("P13 in the order of drawing", x, 0, 11, 5, 6, 0);
        x.fill(0, 0, 16, 12, 2);
        Scenes.dirtyIs("P13 those that were dirty keep their places", x, 0,
                11, 5, 6, 0, 1, 2, 3, 4, 7, 8, 9, 10);
        x.ask(0, 5);
        Scenes.dirtyIs("P13 two of them told", x, 0, 6, 0, 1, 2, 3, 4, 7, 8, 9, 10);
        x.fill(4, 4, 1, 1, 9);
        Scenes.dirtyIs("P13 dirty again at the end", x, 0, 6, 0, 1, 2, 3, 4, 7, 8, 9, 10, 5);
        Scenes.dirtyIs("P13 the other client", x, 1, 11, 5, 6, 0, 1, 2, 3, 4, 7, 8, 9, 10);
        // Drawn back to what the client shows, a tile stays dirty.
        DirtyTiles y = Scenes.settled();
        y.fill(0, 0, 1, 1, 1);
        y.fill(0, 0, 1, 1, 0);
        Scenes.dirtyIs("P13 drawn back", y, 1, 0);
    }

    private static void dirtyRefuses() {
        DirtyTiles x = new DirtyTiles();
        Check.thrown("P13 not joined", Check.STATE, () -> x.dirty(1));
        Check.thrown("P14 not joined", Check.STATE, () -> x.dirtyAt(1, 0));
        Check.thrown("P14 not joined, no such tile", Check.STATE, () -> x.dirtyAt(1, -1));
        for (int client : NO_CLIENTS) {
            Check.thrown("P13 client " + client, Check.ARGUMENT, () -> x.dirty(client));
            Check.thrown("P14 client " + client, Check.ARGUMENT, () -> x.dirtyAt(client, 99));
        }
        x.join(1);
        int[] wrong = {-1, 12, Integer.MAX_VALUE, Integer.MIN_VALUE};
        for (int index : wrong) {
            Check.thrown("P14 index " + index, Check.INDEX, () -> x.dirtyAt(1, index));
        }
        Check.due("P14 the last one", 11, () -> x.dirtyAt(1, 11));
        x.ask(1, 300);
        Check.thrown("P14 nothing dirty", Check.INDEX, () -> x.dirtyAt(1, 0));
    }

    private static void cachedAndAlike() {
        DirtyTiles x = new DirtyTiles();
        Check.thrown("P15 not joined", Check.STATE, () -> x.cached(0));
        Check.thrown("P16 not joined", Check.STATE, () -> x.isAlike(0) ? 1 : 0);
        for (int client : NO_CLIENTS) {
            Check.thrown("P15 client " + client, Check.ARGUMENT, () -> x.cached(client));
            Check.thrown("P16 client " + client, Check.ARGUMENT, () -> x.isAlike(client) ? 1 : 0);
        }
        for (int tile = 0; tile < 12; tile++) {
            x.fill(tile % 4 * 4, tile / 4 * 4, 4, 4, tile + 1);
        }
        x.join(0);
        for (int told = 1; told <= 12; told++) {
            int t = told;
            Check.due("P9 one tile", 1, () -> x.ask(0, 3));
            Check.due("P15 not ahead of the answer", Math.min(6, t - 1), () -> x.cached(0));
            Check.due("P16 the server is ahead", 0, () -> x.isAlike(0) ? 1 : 0);
            x.answer(0);
            Check.due("P15 cached", Math.min(6, t), () -> x.cached(0));
            Check.due("P16 alike again", 1, () -> x.isAlike(0) ? 1 : 0);
        }
        DirtyTiles y = Scenes.settled();
        Check.due("P15 tiles with the same cells are one", 1, () -> y.cached(0));
        y.fill(0, 0, 1, 1, 1);
        y.fill(0, 0, 1, 1, 0);
        y.ask(0, 300);
        Check.due("P16 the first one to the front again", 1, () -> y.isAlike(0) ? 1 : 0);
    }

    /** Tells one tile of one colour to client 0 and looks at its way. */
    private static void tell(DirtyTiles x, int colour, int way) {
        x.fill(0, 0, 4, 4, 15);
        x.fill(0, 0, 4, 4, colour);
        Check.due("P9 way of the colour " + colour, way, () -> x.way(0, 0));
        Check.due("P9 one tile", 1, () -> x.ask(0, 300));
        Check.due("P10 one tile", 1, () -> x.answer(0));
    }

    private static void cacheMovesToTheFront() {
        DirtyTiles x = Scenes.settled();
        for (int colour = 1; colour <= 5; colour++) {
            tell(x, colour, 103);
        }
        // The cache is 5 4 3 2 1 0; 0 is taken to the front, so that 1 is lost next.
        tell(x, 0, 2);
        tell(x, 6, 103);
        tell(x, 0, 2);
        tell(x, 2, 2);
        tell(x, 1, 103);
        // The cache is 1 2 0 6 5 4 now.
        tell(x, 4, 2);
        tell(x, 3, 103);
        // The cache is 3 4 1 2 0 6 now.
        tell(x, 5, 103);
        tell(x, 6, 103);
        tell(x, 2, 2);
        Check.due("P15 full", 6, () -> x.cached(0));
        Check.due("P16 alike", 1, () -> x.isAlike(0) ? 1 : 0);
        // Same tiles in another order are not alike.
        x.fill(0, 0, 4, 4, 6);
        x.ask(0, 300);
        Check.due("P15 full", 6, () -> x.cached(0));
        Check.due("P16 another order", 0, () -> x.isAlike(0) ? 1 : 0);
    }

    private static void writtenAndUnits() {
        DirtyTiles x = new DirtyTiles();
        int[] wrong = {-1, 5, Integer.MAX_VALUE, Integer.MIN_VALUE};
        for (int way : wrong) {
            Check.thrown("P17 way " + way, Check.ARGUMENT, () -> x.written(way));
        }
        x.join(0);
        x.join(1);
        x.ask(0, 300);
        Check.due("P17 cached", 11, () -> x.written(0));
        Check.due("P17 filled", 1, () -> x.written(1));
        Check.due("P18 units", 25, () -> x.units());
        x.answer(0);
        Check.due("P18 the answer has none", 25, () -> x.units());
        x.ask(1, 6);
        Check.due("P17 cached, both clients", 12, () -> x.written(0));
        Check.due("P17 filled, both clients", 2, () -> x.written(1));
        Check.due("P18 units of the message, not the budget", 30, () -> x.units());
        x.join(1);
        Check.due("P17 stays after join", 12, () -> x.written(0));
    }

    private static void everyWayIsCounted() {
        DirtyTiles x = new DirtyTiles();
        x.join(0);
        x.fill(4, 0, 4, 4, 1);
        for (int cell = 0; cell < 16; cell++) {
            x.fill(8 + cell % 4, cell / 4, 1, 1, cell % 2);
            x.fill(cell % 4, 4 + cell / 4, 1, 1, cell);
        }
        x.fill(12, 0, 4, 2, 1);
        Check.due("P9 five tiles", 5, () -> x.ask(0, 3 + 3 + 10 + 5 + 17));
        int[] want = {0, 2, 1, 1, 1};
        for (int way = 0; way < 5; way++) {
            int w = way;
            Check.due("P17 written in way " + w, want[w], () -> x.written(w));
        }
        Check.due("P18 units", 38, () -> x.units());
        x.answer(0);
        x.ask(0, 300);
        Check.due("P17 the others are cached", 7, () -> x.written(0));
        Check.due("P18 units", 52, () -> x.units());
    }

    private static void slowClientGetsTheLastPicture() {
        DirtyTiles x = Scenes.settled();
        for (int step = 0; step < 40; step++) {
            x.fill(step % 16, step % 12, 1, 1, step % 15 + 1);
            x.copy(0, 0, 16, 12, step % 3 - 1, step % 5 - 2);
            if (step % 7 == 0) {
                x.ask(0, 40);
            }
            if (step % 7 == 5) {
                x.answer(0);
            }
        }
        x.answer(0);
        for (int turn = 0; turn < 12; turn++) {
            if (x.ask(0, 17) > 0) {
                x.answer(0);
            }
        }
        Check.due("P12 the same screen", 0, () -> x.unlike(0));
        Check.due("P16 caches alike", 1, () -> x.isAlike(0) ? 1 : 0);
        Check.due("P13 nothing dirty", 0, () -> x.dirty(0));
    }
}
