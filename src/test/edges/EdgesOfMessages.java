/** Terms, at their edges: messages, ways, caches. */
final class EdgesOfMessages {
    private static final String TERMS = "Terms";

    private EdgesOfMessages() {
    }

    static void look() {
        messageGoesThroughDirtyInOrder();
        fewestUnitsOfSeveralTheFirst();
        way0Cached();
        way1Filled();
        way2ByColours();
        way3ByRuns();
        way4Raw();
        messageEndsAheadOfTheTileThatIsTooDear();
        otherwiseInTheMessageAndNoLongerDirty();
    }

    private static void messageGoesThroughDirtyInOrder() {
        Sentences.of(TERMS, "When a client asks, with a budget in units, the server goes through "
                + "its dirty tiles in order.");
        DirtyTiles x = Scenes.settled();
        int[] order = {8, 2, 11, 0};
        for (int tile : order) {
            Scenes.fillTile(x, tile, tile + 1);
        }
        for (int index = 0; index < 4; index++) {
            int tile = order[index];
            Check.due("one tile", 1, () -> x.ask(0, 3));
            Check.due("answer", 1, () -> x.answer(0));
            Check.due("that tile", tile + 1, () -> x.shown(0, tile % 4 * 4, tile / 4 * 4));
            Check.due("unlike", 16 * (3 - index), () -> x.unlike(0));
        }
        Check.due("none is left", 0, () -> x.ask(0, 300));
    }

    private static void wayIs(String cells, int want) {
        DirtyTiles x = Scenes.joined();
        Scenes.paint(x, 9, cells);
        Check.due("way of " + cells, want, () -> x.way(0, 9));
        int before = x.units();
        // Tiles 0 to 8 have the colour 0: 3 units and 8 times 2.
        Check.due("ask " + cells, 10, () -> x.ask(0, 19 + want % 100));
        Check.due("units of " + cells, before + 19 + want % 100, () -> x.units());
    }

    private static void fewestUnitsOfSeveralTheFirst() {
        Sentences.of(TERMS, "Each is written in one of these ways, that which takes the fewest "
                + "units, of several the first one here");
        wayIs("pppppppppppppppp", 103); // filled and one run take 3
        wayIs("aabaabcccccccccc", 311); // three colours take 15, five runs less
        wayIs("abcabcaaaaaaaaaa", 215); // three colours and seven runs take 15
        wayIs("abcabcabbbbbbbbb", 215); // eight runs take more
        wayIs("abcabccccccccccc", 313); // six runs take less
        wayIs("ababaaaaaaaaaaaa", 210); // five runs take more than two colours
        wayIs("abababaaaaaaaaaa", 210);
        wayIs("abaaaaaaaaaaaaaa", 307); // three runs take less
        wayIs("abacaaaaaaaaaaaa", 311); // five runs
        wayIs("abcdabcccccccccc", 315); // seven runs take less than four colours
        wayIs("abcdabcddddddddd", 216); // eight runs take more
        wayIs("abcdefghhhhhhhhh", 317); // eight runs and raw take 17
        wayIs("abcdefghiiiiiiii", 417); // nine runs take more
    }

    private static void way0Cached() {
        Sentences.of(TERMS, "0, cached: 2 units, if the cache of the client at the server has a "
                + "tile with the same cells");
        DirtyTiles x = Scenes.bothJoined();
        Scenes.paint(x, 0, "abcdefghijklmnop");
        Scenes.paint(x, 1, "abcdefghijklmnop");
        Scenes.paint(x, 2, "abcdefghijklmnoa");
        Scenes.paint(x, 3, "bbcdefghijklmnop");
        Check.due("none in the cache", 417, () -> x.way(0, 0));
        Check.due("the first one", 1, () -> x.ask(0, 17));
        Check.due("at the server, ahead of the answer", 2, () -> x.way(0, 0));
        Check.due("another tile with the same cells", 2, () -> x.way(0, 1));
        Check.due("one cell differs, the last", 417, () -> x.way(0, 2));
        Check.due("one cell differs, the first", 417, () -> x.way(0, 3));
        Check.due("the cache of the other client", 417, () -> x.way(1, 1));
        Check.due("colour 0 is in no cache yet", 103, () -> x.way(0, 4));
        x.answer(0);
        Check.due("two units are enough", 1, () -> x.ask(0, 2));
        Check.due("one cached tile", 1, () -> x.written(0));
        Check.due("units", 19, () -> x.units());
        // The empty cache has no tile, not even one of colour 0; tiles of one message count.
        DirtyTiles y = Scenes.joined();
        Check.due("within one message", 12, () -> y.ask(0, 3 + 11 * 2));
        Check.due("one filled", 1, () -> y.written(1));
        Check.due("the others cached", 11, () -> y.written(0));
    }

    private static void way1Filled() {
        Sentences.of(TERMS, "1, filled: 3 units, if all cells have the same colour");
        for (int colour = 0; colour < 16; colour++) {
            DirtyTiles x = Scenes.joined();
            Scenes.fillTile(x, 7, colour);
            Check.due("colour " + colour, 103, () -> x.way(0, 7));
        }
        wayIs("baaaaaaaaaaaaaaa", 305);
        wayIs("aaaaaaaaaaaaaaab", 305);
        wayIs("aaaaaaaabaaaaaaa", 307);
    }

    private static void way2ByColours() {
        Sentences.of(TERMS, "2, by colours: 10 units if it has two different colours, 15 if it has "
                + "three, 16 if it has four");
        wayIs("abababababababab", 210);
        wayIs("popopopopopopopo", 210);
        wayIs("abcabcabcabcabca", 215);
        wayIs("abcdabcdabcdabcd", 216);
        wayIs("mnopmnopmnopmnop", 216);
        wayIs("abcdeabcdeabcdea", 417); // five colours aren't written that way
    }

    private static void way3ByRuns() {
        Sentences.of(TERMS, "3, by runs: 1 unit and 2 for each run; a run is a greatest row of "
                + "neighbouring cells, in their order, with the same colour");
        wayIs("abbbbbbbbbbbbbbb", 305);
        wayIs("aaabbbbbbbbbbbcc", 307);
        wayIs("aaaabbbbccccaaaa", 309); // a colour that comes back begins another run
        wayIs("abbbbbcccccdddde", 311);
        wayIs("abbccddeeffffffa", 315);
        wayIs("abbccddeeffggghh", 317);
        // A run goes on over the end of a row, but not into the row below at the same column.
        wayIs("aaabbbbbaaaaaaaa", 307);
        DirtyTiles x = Scenes.joined();
        String cells = Scenes.ALL_COLOURS;
        for (int runs = 1; runs <= 16; runs++) {
            int r = runs;
            StringBuilder line = new StringBuilder(cells.substring(0, runs));
            while (line.length() < 16) {
                line.append(cells.charAt(runs - 1));
            }
            Scenes.paint(x, 4, line.toString());
            Check.due("runs of " + line, r, () -> x.runs(4));
        }
    }

    private static void way4Raw() {
        Sentences.of(TERMS, "4, raw: 17 units.");
        wayIs("abcdefghijklmnop", 417);
        wayIs("abcdefghiaaaaaaa", 417);
        wayIs("abcdeabcdabcdabc", 417);
    }

    private static void messageEndsAheadOfTheTileThatIsTooDear() {
        Sentences.of(TERMS, "If the units of the message would be more than the budget with it, "
                + "the message ends ahead of it.");
        // Tiles of 3, 17, 5 and 3 units.
        int[][] budgets = {{0, 0, 0}, {2, 0, 0}, {3, 1, 3}, {4, 1, 3}, {8, 1, 3}, {19, 1, 3},
            {20, 2, 20}, {24, 2, 20}, {25, 3, 25}, {27, 3, 25}, {28, 4, 28}, {300, 4, 28}};
        for (int[] each : budgets) {
            DirtyTiles x = Scenes.settled();
            int before = x.units();
            Scenes.fillTile(x, 0, 1);
            Scenes.paint(x, 1, Scenes.ALL_COLOURS);
            Scenes.paint(x, 2, "bbbbbbbbcccccccc");
            Scenes.fillTile(x, 3, 2);
            Check.due("budget " + each[0], each[1], () -> x.ask(0, each[0]));
            Check.due("units, budget " + each[0], before + each[2], () -> x.units());
            Check.due("dirty, budget " + each[0], 4 - each[1], () -> x.dirty(0));
            if (each[1] < 4) {
                Check.due("the one that it ended ahead of", each[1], () -> x.dirtyAt(0, 0));
                Check.due("is not counted as written", each[1] > 1 ? 1 : 0, () -> x.written(4));
            }
        }
        DirtyTiles y = Scenes.joined();
        Check.due("even the first is too dear", 0, () -> y.ask(0, 2));
        Check.due("then no tile is in the cache", 103, () -> y.way(0, 0));
        Scenes.alikeIs("then the caches are empty", y, 0, true);
    }

    private static void otherwiseInTheMessageAndNoLongerDirty() {
        Sentences.of(TERMS, "Otherwise it is in the message, is no longer dirty, and goes to the "
                + "front of the cache at the server");
        DirtyTiles x = Scenes.joined();
        Check.due("two tiles", 2, () -> x.ask(0, 5));
        Scenes.dirtyIs("ahead of the answer already", x, 0, 2, 3, 4, 5, 6, 7, 8, 9, 10, 11);
        Check.due("in the cache at the server", 2, () -> x.way(0, 0));
        Check.due("not in the client's own", 0, () -> x.cached(0));
        x.fill(4, 0, 1, 1, 5);
        Scenes.dirtyIs("a tile of the message becomes dirty again", x, 0,
                2, 3, 4, 5, 6, 7, 8, 9, 10, 11, 1);
    }
}
