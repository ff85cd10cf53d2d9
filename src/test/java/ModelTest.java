import java.util.ArrayList;
import java.util.Arrays;
import java.util.HashSet;
import java.util.List;
import java.util.Random;
import java.util.Set;

/** Promises 1 to 18: long runs of calls, beside a model that is written in the plainest way. */
public final class ModelTest {
    private static final int RUNS = 300;
    private static final int CALLS = 512;

    public static void main(String[] args) {
        for (int run = 0; run < RUNS; run++) {
            oneRun(run);
        }
        Check.end();
    }

    private static void oneRun(int seed) {
        // A fixed seed: the same calls every time.
        Random random = new Random(seed);
        DirtyTiles x = new DirtyTiles();
        Model model = new Model();
        // Few colours and small boxes make tiles that are alike; many make raw ones.
        int colours = 2 + seed % 15;
        int side = 1 + seed % 16;
        for (int call = 0; call < CALLS; call++) {
            int[] p = parameters(random, random.nextInt(17), colours, side);
            String what = "run " + seed + ", call " + call + ", " + Arrays.toString(p);
            Check.same(what, Check.outcome(() -> model.call(p)), Check.outcome(() -> program(x, p)));
        }
    }

    private static int upTo(Random random, int count) {
        // Now and then beyond the range, at either end.
        if (random.nextInt(60) == 0) {
            return random.nextBoolean() ? -1 : count;
        }
        return random.nextInt(count);
    }

    private static int[] parameters(Random random, int method, int colours, int side) {
        int client = upTo(random, 2);
        switch (method) {
            case 0:
            case 1: {
                int column = upTo(random, 16);
                int row = upTo(random, 12);
                int wide = 1 + upTo(random, Math.max(1, Math.min(side, 16 - column)));
                int high = 1 + upTo(random, Math.max(1, Math.min(side, 12 - row)));
                if (method == 0) {
                    int colour = random.nextInt(60) == 0 ? upTo(random, 16) : random.nextInt(colours);
                    return new int[] {0, column, row, wide, high, colour};
                }
                return new int[] {1, column, row, wide, high,
                    upTo(random, 31) - 15, upTo(random, 23) - 11};
            }
            case 2:
                return new int[] {2, upTo(random, 16), upTo(random, 12)};
            case 3:
            case 4:
                return new int[] {method, upTo(random, 12)};
            case 5:
                return new int[] {5, client, upTo(random, 12)};
            case 6:
                // Joins are rare, as they end what has gone ahead of them.
                return random.nextInt(12) == 0 ? new int[] {6, client} : new int[] {11, client};
            case 7:
                return new int[] {7, client,
                    random.nextBoolean() ? upTo(random, 301) : upTo(random, 40)};
            case 9:
                return new int[] {9, client, upTo(random, 16), upTo(random, 12)};
            case 12:
                return new int[] {12, client, upTo(random, 13)};
            case 15:
                return new int[] {15, upTo(random, 5)};
            case 16:
                return new int[] {16};
            default:
                return new int[] {method, client};
        }
    }

    private static long program(DirtyTiles x, int[] p) {
        switch (p[0]) {
            case 0: return x.fill(p[1], p[2], p[3], p[4], p[5]);
            case 1: return x.copy(p[1], p[2], p[3], p[4], p[5], p[6]);
            case 2: return x.colour(p[1], p[2]);
            case 3: return x.colours(p[1]);
            case 4: return x.runs(p[1]);
            case 5: return x.way(p[1], p[2]);
            case 6: return x.join(p[1]);
            case 7: return x.ask(p[1], p[2]);
            case 8: return x.answer(p[1]);
            case 9: return x.shown(p[1], p[2], p[3]);
            case 10: return x.unlike(p[1]);
            case 11: return x.dirty(p[1]);
            case 12: return x.dirtyAt(p[1], p[2]);
            case 13: return x.cached(p[1]);
            case 14: return x.isAlike(p[1]) ? 1 : 0;
            case 15: return x.written(p[1]);
            default: return x.units();
        }
    }

    /** What the document says, with lists of lists and a new list for every tile that is looked at. */
    private static final class Model {
        private static final class Side {
            int[][] cells = new int[12][16];
            List<List<Integer>> cache = new ArrayList<>();
        }

        private static final class Guest {
            final Side own = new Side();
            final List<List<Integer>> serverCache = new ArrayList<>();
            final List<Integer> dirty = new ArrayList<>();
            final List<Integer> messageTiles = new ArrayList<>();
            final List<List<Integer>> messageCells = new ArrayList<>();
        }

        private int[][] cells = new int[12][16];
        private final Guest[] guests = new Guest[2];
        private final int[] written = new int[5];
        private int units = 0;

        long call(int[] p) {
            switch (p[0]) {
                case 0:
                case 1:
                    return draw(p);
                case 2:
                    range(p[1], 0, 15);
                    range(p[2], 0, 11);
                    return cells[p[2]][p[1]];
                case 3:
                    range(p[1], 0, 11);
                    return new HashSet<>(tile(cells, p[1])).size();
                case 4:
                    range(p[1], 0, 11);
                    return runsOf(tile(cells, p[1]));
                case 15:
                    range(p[1], 0, 4);
                    return written[p[1]];
                case 16:
                    return units;
                default:
                    return clientCall(p);
            }
        }

        private long clientCall(int[] p) {
            range(p[1], 0, 1);
            if (p[0] == 5) {
                range(p[2], 0, 11);
            } else if (p[0] == 6) {
                guests[p[1]] = new Guest();
                for (int tile = 0; tile < 12; tile++) {
                    guests[p[1]].dirty.add(tile);
                }
            } else if (p[0] == 7) {
                range(p[2], 0, 300);
            } else if (p[0] == 9) {
                range(p[2], 0, 15);
                range(p[3], 0, 11);
            }
            Guest guest = guests[p[1]];
            if (guest == null) {
                throw new IllegalStateException();
            }
            switch (p[0]) {
                case 5: return best(tile(cells, p[2]), guest.serverCache);
                case 7: return ask(guest, p[2]);
                case 8: return answer(guest);
                case 9: return guest.own.cells[p[3]][p[2]];
                case 10: return differing(cells, guest.own.cells);
                case 12:
                    if (p[2] < 0 || p[2] >= guest.dirty.size()) {
                        throw new IndexOutOfBoundsException();
                    }
                    return guest.dirty.get(p[2]);
                case 13: return guest.own.cache.size();
                case 14: return guest.own.cache.equals(guest.serverCache) ? 1 : 0;
                default: return guest.dirty.size();
            }
        }

        private static void range(int value, int least, int most) {
            if (value < least || value > most) {
                throw new IllegalArgumentException();
            }
        }

        private long draw(int[] p) {
            range(p[1], 0, 15);
            range(p[2], 0, 11);
            range(p[3], 1, 16 - p[1]);
            range(p[4], 1, 12 - p[2]);
            range(p[5], p[0] == 0 ? 0 : -15, 15);
            if (p[0] == 1) {
                range(p[6], -11, 11);
            }
            int[][] after = new int[12][];
            for (int row = 0; row < 12; row++) {
                after[row] = cells[row].clone();
            }
            for (int row = 0; row < 12; row++) {
                for (int column = 0; column < 16; column++) {
                    int fromColumn = p[0] == 0 ? column : column - p[5];
                    int fromRow = p[0] == 0 ? row : row - p[6];
                    if (fromColumn >= p[1] && fromColumn < p[1] + p[3]
                            && fromRow >= p[2] && fromRow < p[2] + p[4]) {
                        after[row][column] = p[0] == 0 ? p[5] : cells[fromRow][fromColumn];
                    }
                }
            }
            int[][] ahead = cells;
            cells = after;
            for (Guest guest : guests) {
                for (int tile = 0; guest != null && tile < 12; tile++) {
                    if (!tile(ahead, tile).equals(tile(after, tile)) && !guest.dirty.contains(tile)) {
                        guest.dirty.add(tile);
                    }
                }
            }
            return differing(ahead, after);
        }

        private static int differing(int[][] some, int[][] others) {
            int count = 0;
            for (int row = 0; row < 12; row++) {
                for (int column = 0; column < 16; column++) {
                    count += some[row][column] == others[row][column] ? 0 : 1;
                }
            }
            return count;
        }

        private static List<Integer> tile(int[][] cells, int number) {
            List<Integer> found = new ArrayList<>();
            for (int row = 0; row < 12; row++) {
                for (int column = 0; column < 16; column++) {
                    if (4 * (row / 4) + column / 4 == number) {
                        found.add(cells[row][column]);
                    }
                }
            }
            return found;
        }

        private static int runsOf(List<Integer> tile) {
            int count = 0;
            int last = -1;
            for (int colour : tile) {
                count += colour == last ? 0 : 1;
                last = colour;
            }
            return count;
        }

        private static int best(List<Integer> tile, List<List<Integer>> cache) {
            Set<Integer> colours = new HashSet<>(tile);
            int way = 4;
            int units = 17;
            int runUnits = 1 + 2 * runsOf(tile);
            if (runUnits <= units) {
                way = 3;
                units = runUnits;
            }
            int[] byColours = {0, 0, 10, 15, 16};
            if (colours.size() >= 2 && colours.size() <= 4 && byColours[colours.size()] <= units) {
                way = 2;
                units = byColours[colours.size()];
            }
            if (colours.size() == 1) {
                way = 1;
                units = 3;
            }
            if (cache.contains(tile)) {
                way = 0;
                units = 2;
            }
            return 100 * way + units;
        }

        private static void toFront(List<List<Integer>> cache, List<Integer> tile) {
            cache.remove(tile);
            cache.add(0, tile);
            if (cache.size() > 6) {
                cache.remove(6);
            }
        }

        private int ask(Guest guest, int budget) {
            if (!guest.messageTiles.isEmpty()) {
                throw new IllegalStateException();
            }
            int spent = 0;
            while (!guest.dirty.isEmpty()) {
                List<Integer> tile = tile(cells, guest.dirty.get(0));
                int best = best(tile, guest.serverCache);
                if (spent + best % 100 > budget) {
                    break;
                }
                spent += best % 100;
                written[best / 100]++;
                guest.messageTiles.add(guest.dirty.remove(0));
                guest.messageCells.add(tile);
                toFront(guest.serverCache, tile);
            }
            units += spent;
            return guest.messageTiles.size();
        }

        private static int answer(Guest guest) {
            if (guest.messageTiles.isEmpty()) {
                throw new IllegalStateException();
            }
            int count = guest.messageTiles.size();
            for (int index = 0; index < count; index++) {
                int tile = guest.messageTiles.get(index);
                List<Integer> told = guest.messageCells.get(index);
                for (int place = 0; place < 16; place++) {
                    guest.own.cells[tile / 4 * 4 + place / 4][tile % 4 * 4 + place % 4] =
                            told.get(place);
                }
                toFront(guest.own.cache, told);
            }
            guest.messageTiles.clear();
            guest.messageCells.clear();
            return count;
        }
    }
}
