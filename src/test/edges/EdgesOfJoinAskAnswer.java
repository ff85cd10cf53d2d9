/** Promises 8 to 10, at their edges: join, ask, answer. */
final class EdgesOfJoinAskAnswer {
    private static final String JOIN = "Promise 8: join";
    private static final String ASK = "Promise 9: ask";
    private static final String ANSWER = "Promise 10: answer";

    private EdgesOfJoinAskAnswer() {
    }

    static void look() {
        joinBeginsAnew();
        joinClient();
        joinReturns();
        joinThrows();
        askOfAClient();
        askClient();
        askBudget();
        askReturns();
        askWithNoneThereIsNoMessage();
        askThrowsOutOfRange();
        askThrowsNotJoined();
        askThrowsNotAnswered();
        answerOfAClient();
        answerClient();
        answerReturns();
        answerThrowsOutOfRange();
        answerThrowsNotJoined();
        answerThrowsNoMessage();
    }

    /** All tiles are raw, and no two of them are alike. */
    private static DirtyTiles allRaw() {
        DirtyTiles x = new DirtyTiles();
        for (int row = 0; row < 12; row++) {
            for (int column = 0; column < 16; column++) {
                int place = row % 4 * 4 + column % 4;
                int tile = row / 4 * 4 + column / 4;
                x.fill(column, row, 1, 1, (place + tile) % 16);
            }
        }
        return x;
    }

    private static void joinBeginsAnew() {
        Sentences.of(JOIN, "Lets a client join, also if it has joined already; it begins anew "
                + "then.");
        DirtyTiles x = Scenes.settled();
        x.fill(0, 0, 16, 12, 3);
        x.ask(0, 7);
        x.answer(0);
        x.ask(0, 4);
        int units = x.units();
        Check.due("with a message on its way", 12, () -> x.join(0));
        Check.thrown("the message is gone", Check.STATE, () -> x.answer(0));
        Check.due("its screen has the colour 0", 0, () -> x.shown(0, 0, 0));
        Check.due("its cache is empty", 0, () -> x.cached(0));
        Check.due("that at the server too", 103, () -> x.way(0, 0));
        Scenes.alikeIs("both are empty", x, 0, true);
        Scenes.dirtyIs("all in order", x, 0, Scenes.ALL_TILES);
        Check.due("once more", 12, () -> x.join(0));
        Scenes.colourIs("the screen of the server stays", x, 0, 0, 3);
        Check.due("the units stay", units, () -> x.units());
        Check.due("the other client's cache stays", 1, () -> x.cached(1));
        Check.due("it is told all again", 12, () -> x.ask(0, 3 + 11 * 2));
        x.answer(0);
        Check.due("and shows all", 0, () -> x.unlike(0));
    }

    private static void joinClient() {
        Sentences.of(JOIN, "- `client`: 0 or 1");
        Edges.range(0, 1, DirtyTiles::new, (x, v) -> x.join(v), v -> 12);
    }

    private static void joinReturns() {
        Sentences.of(JOIN, "Returns how many tiles are dirty for it.");
        DirtyTiles x = new DirtyTiles();
        Check.due("nothing was drawn", 12, () -> x.join(0));
        x.ask(0, 300);
        Check.due("none was dirty", 0, () -> x.dirty(0));
        Check.due("joined again", 12, () -> x.join(0));
        Check.due("as dirty says", 12, () -> x.dirty(0));
        x.fill(0, 0, 16, 12, 1);
        Check.due("all was drawn", 12, () -> x.join(1));
    }

    private static void joinThrows() {
        Sentences.of(JOIN, "Throws `IllegalArgumentException` if client is out of range");
        Edges.refused(0, 1, DirtyTiles::new, (x, v) -> x.join(v));
        Edges.refused(0, 1, Scenes::bothJoined, (x, v) -> x.join(v));
    }

    private static void askOfAClient() {
        Sentences.of(ASK, "Lets a client ask.");
        DirtyTiles x = Scenes.bothJoined();
        Check.due("client 0", 3, () -> x.ask(0, 7));
        Scenes.dirtyIs("client 0", x, 0, 3, 4, 5, 6, 7, 8, 9, 10, 11);
        Scenes.dirtyIs("client 1 has not asked", x, 1, Scenes.ALL_TILES);
        Check.thrown("client 1 has no message", Check.STATE, () -> x.answer(1));
        Check.due("client 1", 1, () -> x.ask(1, 3));
    }

    private static void askClient() {
        Sentences.of(ASK, "- `client`: 0 or 1");
        Edges.range(0, 1, Scenes::bothJoined, (x, v) -> x.ask(v, 300), v -> 12);
    }

    private static void askBudget() {
        Sentences.of(ASK, "- `budget`: 0 to 300");
        // Tiles of the colour 0: 3 units for the first, 2 for each that follows.
        Edges.range(0, 300, Scenes::joined, (x, v) -> x.ask(0, v),
                v -> v < 3 ? 0 : Math.min(12, 1 + (v - 3) / 2));
    }

    private static void askReturns() {
        Sentences.of(ASK, "Returns how many tiles the message has");
        Edges.range(0, 300, () -> {
            DirtyTiles x = allRaw();
            x.join(1);
            return x;
        }, (x, v) -> x.ask(1, v), v -> Math.min(12, v / 17));
        DirtyTiles y = allRaw();
        y.join(0);
        Check.due("the dearest message of all", 12, () -> y.ask(0, 300));
        Check.due("its units", 12 * 17, () -> y.units());
    }

    private static void askWithNoneThereIsNoMessage() {
        Sentences.of(ASK, "with none there is no message to answer");
        DirtyTiles x = Scenes.joined();
        Check.due("too small a budget", 0, () -> x.ask(0, 2));
        Check.thrown("no message", Check.STATE, () -> x.answer(0));
        Check.due("it may ask again", 0, () -> x.ask(0, 0));
        Check.due("and again", 12, () -> x.ask(0, 300));
        Check.due("all told", 12, () -> x.answer(0));
        Check.due("nothing is dirty", 0, () -> x.ask(0, 300));
        Check.thrown("no message", Check.STATE, () -> x.answer(0));
        Check.due("nothing is dirty still", 0, () -> x.ask(0, 300));
        Check.due("units of one message alone", 25, () -> x.units());
    }

    private static void askThrowsOutOfRange() {
        Sentences.of(ASK, "Throws `IllegalArgumentException` if client or budget is out of range");
        Edges.refused(0, 1, Scenes::bothJoined, (x, v) -> x.ask(v, 300));
        Edges.refused(0, 300, Scenes::bothJoined, (x, v) -> x.ask(1, v));
        Edges.refused(0, 300, Scenes::bothJoined, (x, v) -> x.ask(v, v));
        Edges.refused(0, 300, DirtyTiles::new, (x, v) -> x.ask(0, v));
    }

    private static void askThrowsNotJoined() {
        Sentences.of(ASK, "Throws `IllegalStateException` if the client has not joined");
        DirtyTiles x = new DirtyTiles();
        Check.thrown("nobody has joined", Check.STATE, () -> x.ask(0, 300));
        x.join(0);
        Check.thrown("the other has joined", Check.STATE, () -> x.ask(1, 0));
        Check.due("the one that has joined", 0, () -> x.ask(0, 0));
    }

    private static void askThrowsNotAnswered() {
        Sentences.of(ASK, "or has a message that it has not answered");
        DirtyTiles x = Scenes.bothJoined();
        x.ask(0, 3);
        Check.thrown("not answered", Check.STATE, () -> x.ask(0, 300));
        Check.thrown("not answered, no budget", Check.STATE, () -> x.ask(0, 0));
        Check.due("dirty as before", 11, () -> x.dirty(0));
        Check.due("units as before", 3, () -> x.units());
        Check.due("the other client may", 12, () -> x.ask(1, 300));
        Check.due("the message as before", 1, () -> x.answer(0));
        Check.due("answered", 11, () -> x.ask(0, 300));
    }

    private static void answerOfAClient() {
        Sentences.of(ANSWER, "Lets a client answer its message.");
        DirtyTiles x = new DirtyTiles();
        x.fill(0, 0, 16, 12, 5);
        x.join(0);
        x.join(1);
        x.ask(0, 300);
        x.ask(1, 3);
        Check.due("client 1", 1, () -> x.answer(1));
        Check.due("client 1 shows its message", 192 - 16, () -> x.unlike(1));
        Check.due("client 0 shows nothing yet", 192, () -> x.unlike(0));
        Check.due("client 0", 12, () -> x.answer(0));
        Check.due("client 0 shows all", 0, () -> x.unlike(0));
        Check.due("client 1 as before", 192 - 16, () -> x.unlike(1));
    }

    private static void answerClient() {
        Sentences.of(ANSWER, "- `client`: 0 or 1");
        Edges.range(0, 1, EdgesOfJoinAskAnswer::bothAsked, (x, v) -> x.answer(v), v -> 12);
    }

    private static DirtyTiles bothAsked() {
        DirtyTiles x = Scenes.bothJoined();
        x.ask(0, 300);
        x.ask(1, 300);
        return x;
    }

    private static void answerReturns() {
        Sentences.of(ANSWER, "Returns how many tiles came to its screen.");
        for (int tiles = 1; tiles <= 12; tiles++) {
            int t = tiles;
            DirtyTiles x = Scenes.joined();
            x.ask(0, 1 + 2 * t);
            // What becomes dirty later is not in the message.
            x.fill(0, 0, 16, 12, 1);
            Check.due("tiles", t, () -> x.answer(0));
        }
    }

    private static void answerThrowsOutOfRange() {
        Sentences.of(ANSWER, "Throws `IllegalArgumentException` if client is out of range");
        Edges.refused(0, 1, EdgesOfJoinAskAnswer::bothAsked, (x, v) -> x.answer(v));
        Edges.refused(0, 1, DirtyTiles::new, (x, v) -> x.answer(v));
    }

    private static void answerThrowsNotJoined() {
        Sentences.of(ANSWER, "Throws `IllegalStateException` if the client has not joined");
        DirtyTiles x = new DirtyTiles();
        Check.thrown("nobody has joined", Check.STATE, () -> x.answer(1));
        x.join(0);
        x.ask(0, 300);
        Check.thrown("the other has joined", Check.STATE, () -> x.answer(1));
    }

    private static void answerThrowsNoMessage() {
        Sentences.of(ANSWER, "or has no message");
        DirtyTiles x = Scenes.bothJoined();
        Check.thrown("it has not asked", Check.STATE, () -> x.answer(0));
        x.ask(1, 300);
        Check.thrown("the other has asked", Check.STATE, () -> x.answer(0));
        x.ask(0, 2);
        Check.thrown("a message without tiles is none", Check.STATE, () -> x.answer(0));
        x.ask(0, 3);
        Check.due("one tile", 1, () -> x.answer(0));
        Check.thrown("answered already", Check.STATE, () -> x.answer(0));
        x.ask(0, 300);
        x.join(0);
        Check.thrown("joined anew", Check.STATE, () -> x.answer(0));
    }
}
