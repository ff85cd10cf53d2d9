/** What it is, at its edges: how an object is used, and what it is there for. */
final class EdgesOfUse {
    private static final String WHAT = "What it is";

    private EdgesOfUse() {
    }

    static void look() {
        cachesAreKeptAlike();
        slowClientsGetWhatIsChanged();
        answeredEverythingShowsTheSame();
        calls512();
    }

    private static void cachesAreKeptAlike() {
        Sentences.of(WHAT, "with a cache of tiles that is kept alike at both ends");
        DirtyTiles x = Scenes.bothJoined();
        for (int turn = 0; turn < 30; turn++) {
            x.fill(turn % 13, turn % 9, 1 + turn % 3, 1 + turn % 4, turn % 16);
            x.copy(turn % 10, turn % 7, 6, 5, turn % 4 - 1, turn % 5 - 2);
            int client = turn % 2;
            if (x.ask(client, 20 + turn) > 0) {
                x.answer(client);
            }
            Scenes.alikeIs("turn " + turn, x, client, true);
        }
    }

    private static void slowClientsGetWhatIsChanged() {
        Sentences.of(WHAT, "slow clients get what is changed in the end");
        DirtyTiles x = Scenes.settled();
        // Client 0 asks once in ten drawings, and never for more than one raw tile.
        for (int step = 0; step < 60; step++) {
            x.fill(step * 7 % 16, step * 5 % 12, 1, 1, step % 16);
            if (step % 10 == 3) {
                x.ask(0, 17);
            }
            if (step % 10 == 9) {
                x.answer(0);
            }
        }
        for (int turn = 0; turn < 12 && x.dirty(0) > 0; turn++) {
            x.ask(0, 17);
            x.answer(0);
        }
        Check.due("dirty in the end", 0, () -> x.dirty(0));
        Check.due("unlike in the end", 0, () -> x.unlike(0));
        Scenes.alikeIs("in the end", x, 0, true);
    }

    private static void answeredEverythingShowsTheSame() {
        Sentences.of(WHAT, "a client that has answered everything shows the same screen");
        DirtyTiles x = Scenes.colourful();
        x.join(1);
        Check.due("ask for all", 12, () -> x.ask(1, 300));
        Check.due("answer all", 12, () -> x.answer(1));
        for (int row = 0; row < 12; row++) {
            for (int column = 0; column < 16; column++) {
                int c = column;
                int r = row;
                Check.due("shown(1, " + c + ", " + r + ")", Scenes.colourfulAt(c, r),
                        () -> x.shown(1, c, r));
            }
        }
        Check.due("unlike", 0, () -> x.unlike(1));
    }

    private static void calls512() {
        Sentences.of(WHAT, "An object is used for at most 512 calls after it has been made");
        DirtyTiles x = Scenes.joined();
        x.ask(0, 300);
        x.answer(0);
        int calls = 3;
        int units = 3 + 11 * 2;
        for (int turn = 0; turn < 127; turn++) {
            // Fifteen colours in turn are more than the cache holds: each is filled, with 3 units.
            int colour = turn % 15 + 1;
            units += 3;
            int due = units;
            Check.due("call " + (calls + 1), 16, () -> Scenes.fillTile(x, 5, colour));
            Check.due("call " + (calls + 2), 1, () -> x.ask(0, 3));
            Check.due("call " + (calls + 3), 1, () -> x.answer(0));
            Check.due("call " + (calls + 4), due, () -> x.units());
            calls += 4;
        }
        Check.same("calls ahead of the last", "511", "" + calls);
        Check.due("call 512", 0, () -> x.unlike(0));
    }
}
