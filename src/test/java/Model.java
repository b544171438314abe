import java.util.ArrayList;
import java.util.List;

/**
 * The document's terms once more, written the slowest and plainest way and apart from HailPool: each cell knows its
 * house, a storm looks at every cell of the land, and what is lost is counted ahead of it and behind it.
 */
final class Model {
    long pool;
    int years;
    final List<long[]> growers = new ArrayList<>();
    final List<long[]> houses = new ArrayList<>();
    final List<long[]> layers = new ArrayList<>();
    final List<long[]> storms = new ArrayList<>();
    final int[][] state = new int[20][20];
    final int[][] at = new int[20][20];

    // A grower's row: coins, deductible, limit (0: no policy), rate, factor, claimed, owed.
    // A house's row: grower, x, y, wide, deep, strength, value, net.
    // A layer's row: attachment, limit, share, left, paid.

    Model() {
        for (int[] row : at) {
            java.util.Arrays.fill(row, -1);
        }
    }

    Model copy() {
        Model m = new Model();
        m.pool = pool;
        m.years = years;
        growers.forEach(r -> m.growers.add(r.clone()));
        houses.forEach(r -> m.houses.add(r.clone()));
        layers.forEach(r -> m.layers.add(r.clone()));
        storms.forEach(r -> m.storms.add(r.clone()));
        for (int y = 0; y < 20; y++) {
            m.state[y] = state[y].clone();
            m.at[y] = at[y].clone();
        }
        return m;
    }

    private static void argument(boolean right) {
        if (!right) {
            throw new IllegalArgumentException();
        }
    }

    private static void index(int i, int size) {
        if (i < 0 || i >= size) {
            throw new IndexOutOfBoundsException();
        }
    }

    private static void state(boolean right) {
        if (!right) {
            throw new IllegalStateException();
        }
    }

    long addGrower(int coins) {
        argument(coins >= 0 && coins <= 1000000);
        state(growers.size() != 6);
        growers.add(new long[] {coins, 0, 0, 0, 100, 0, 0});
        return growers.size() - 1;
    }

    long build(int g, int x, int y, int wide, int deep, int strength, int value) {
        index(g, growers.size());
        argument(wide >= 1 && wide <= 6 && deep >= 1 && deep <= 6);
        argument(x >= 0 && y >= 0 && (long) x + wide <= 20 && (long) y + deep <= 20);
        argument(strength >= 1 && strength <= 9 && value >= 1 && value <= 1000);
        for (int b = y; b < y + deep; b++) {
            for (int a = x; a < x + wide; a++) {
                state(at[b][a] == -1);
            }
        }
        state(houses.size() != 12);
        for (int b = y; b < y + deep; b++) {
            for (int a = x; a < x + wide; a++) {
                at[b][a] = houses.size();
            }
        }
        houses.add(new long[] {g, x, y, wide, deep, strength, value, 0});
        return houses.size() - 1;
    }

    long setNet(int h, boolean isSet) {
        index(h, houses.size());
        long before = houses.get(h)[7];
        houses.get(h)[7] = isSet ? 1 : 0;
        return before;
    }

    long insure(int g, int deductible, int limit, int rate) {
        index(g, growers.size());
        argument(deductible >= 0 && deductible <= 10000 && limit >= 1 && limit <= 100000 && rate >= 1 && rate <= 100);
        long[] r = growers.get(g);
        long before = r[2];
        r[1] = deductible;
        r[2] = limit;
        r[3] = rate;
        return before;
    }

    long mend(int h) {
        index(h, houses.size());
        long lost = house(h, 10);
        long[] r = growers.get((int) houses.get(h)[0]);
        state(r[0] >= lost);
        r[0] -= lost;
        for (int y = 0; y < 20; y++) {
            for (int x = 0; x < 20; x++) {
                if (at[y][x] == h) {
                    state[y][x] = 0;
                }
            }
        }
        return lost;
    }

    /** Over the cells of houses, of this grower and this house (-1: of all): how many, of state 1, of state 2, values, lost. */
    private long[] over(int g, int h) {
        long[] sums = new long[5];
        for (int y = 0; y < 20; y++) {
            for (int x = 0; x < 20; x++) {
                int here = at[y][x];
                if (here == -1 || h != -1 && here != h || g != -1 && houses.get(here)[0] != g) {
                    continue;
                }
                long value = houses.get(here)[6];
                sums[0]++;
                sums[1] += state[y][x] == 1 ? 1 : 0;
                sums[2] += state[y][x] == 2 ? 1 : 0;
                sums[3] += value;
                sums[4] += state[y][x] == 0 ? 0 : state[y][x] == 1 ? value / 2 : value;
            }
        }
        return sums;
    }

    long grower(int g, int what) {
        index(g, growers.size());
        index(what, 10);
        if (what < 7) {
            return growers.get(g)[what];
        }
        return what == 7 ? houses.stream().filter(r -> r[0] == g).count() : over(g, -1)[what - 5];
    }

    long house(int h, int what) {
        index(h, houses.size());
        index(what, 11);
        return what < 8 ? houses.get(h)[what] : over(-1, h)[what == 10 ? 4 : what - 7];
    }

    long pane(int x, int y) {
        index(x, 20);
        index(y, 20);
        return at[y][x] == -1 ? -1 : state[y][x];
    }

    long fund(int coins) {
        argument(coins >= 1 && coins <= 1000000);
        state(pool + coins <= 100000000);
        pool += coins;
        return pool;
    }

    long addLayer(int attachment, int limit, int share) {
        argument(attachment >= 0 && attachment <= 100000 && limit >= 1 && limit <= 100000 && share >= 1 && share <= 100);
        state(layers.size() != 6);
        layers.add(new long[] {attachment, limit, share, 2L * limit, 0});
        return layers.size() - 1;
    }

    long layer(int l, int what) {
        index(l, layers.size());
        index(what, 5);
        return layers.get(l)[what];
    }

    long count(int what) {
        index(what, 11);
        long owed = growers.stream().mapToLong(r -> r[6]).sum();
        long[] all = over(-1, -1);
        return new long[] {growers.size(), houses.size(), layers.size(), pool, owed, storms.size(), years, all[0], all[1],
            all[2], all[4]}[what];
    }

    long endYear() {
        long premiums = 0;
        for (int g = 0; g < growers.size(); g++) {
            long[] r = growers.get(g);
            if (r[2] != 0) {
                long premium = over(g, -1)[3] * r[3] / 1000;
                premium = premium * r[4] / 100;
                premium = premium > r[0] ? r[0] : premium;
                r[0] -= premium;
                premiums += premium;
                r[4] += r[5] != 0 ? 20 : -10;
                r[4] = r[4] > 200 ? 200 : r[4] < 50 ? 50 : r[4];
            }
        }
        pool += premiums;
        for (long[] r : growers) {
            while (r[6] > 0 && pool > 0) {
                r[6]--;
                r[0]++;
                pool--;
            }
        }
        growers.forEach(r -> r[5] = 0);
        layers.forEach(r -> r[3] = 2 * r[1]);
        storms.clear();
        years++;
        return premiums;
    }

    private static void checkStorm(int x, int y, int dx, int dy, int radius, int force, int steps) {
        argument(x >= -20 && x <= 39 && y >= -20 && y <= 39);
        argument(dx >= -3 && dx <= 3 && dy >= -3 && dy <= 3);
        argument(radius >= 0 && radius <= 5 && force >= 1 && force <= 20 && steps >= 1 && steps <= 30);
    }

    long storm(int x, int y, int dx, int dy, int radius, int force, int steps) {
        checkStorm(x, y, dx, dy, radius, force, steps);
        state(storms.size() < 30);
        return blow(x, y, dx, dy, radius, force, steps)[3];
    }

    private long[] blow(int x, int y, int dx, int dy, int radius, int force, int steps) {
        Model ahead = copy();
        for (int k = 0; k < steps; k++) {
            step(x + k * dx, y + k * dy, radius, force);
        }
        long[] told = new long[6];
        for (int b = 0; b < 20; b++) {
            for (int a = 0; a < 20; a++) {
                told[0] += ahead.state[b][a] == 0 && state[b][a] != 0 ? 1 : 0;
                told[1] += ahead.state[b][a] != 2 && state[b][a] == 2 ? 1 : 0;
            }
        }
        long[] claims = new long[growers.size()];
        for (int g = 0; g < growers.size(); g++) {
            long[] r = growers.get(g);
            long damage = over(g, -1)[4] - ahead.over(g, -1)[4];
            told[2] += damage;
            long claim = damage - r[1];
            claim = claim > r[2] - r[5] ? r[2] - r[5] : claim;
            claims[g] = r[2] == 0 || claim < 0 ? 0 : claim;
            r[5] += claims[g];
            told[3] += claims[g];
        }
        for (long[] r : layers) {
            long pays = told[3] > r[0] ? told[3] - r[0] : 0;
            pays = pays > r[1] ? r[1] : pays;
            pays = pays * r[2] / 100;
            pays = pays > r[3] ? r[3] : pays;
            r[3] -= pays;
            r[4] += pays;
            pool += pays;
            told[4] += pays;
        }
        for (int g = 0; g < growers.size(); g++) {
            long paid = claims[g] > pool ? pool : claims[g];
            pool -= paid;
            growers.get(g)[0] += paid;
            growers.get(g)[6] += claims[g] - paid;
            told[5] += claims[g] - paid;
        }
        storms.add(told);
        return told;
    }

    private void step(int middleX, int middleY, int radius, int force) {
        for (int b = 0; b < 20; b++) {
            for (int a = 0; a < 20; a++) {
                int d = Math.max(Math.abs(a - middleX), Math.abs(b - middleY));
                if (at[b][a] == -1 || d > radius) {
                    continue;
                }
                long[] h = houses.get(at[b][a]);
                long hail = force - 2 * d - 5 * h[7];
                if (state[b][a] == 0) {
                    state[b][a] = hail > h[5] ? 1 : 0;
                } else if (state[b][a] == 1) {
                    state[b][a] = 2 * hail > h[5] ? 2 : 1;
                }
            }
        }
    }

    long told(int s, int what) {
        index(s, storms.size());
        index(what, 6);
        return storms.get(s)[what];
    }

    long wouldBe(int x, int y, int dx, int dy, int radius, int force, int steps, int what) {
        checkStorm(x, y, dx, dy, radius, force, steps);
        index(what, 6);
        return copy().blow(x, y, dx, dy, radius, force, steps)[what];
    }

    long worst(int radius, int force) {
        argument(radius >= 0 && radius <= 5 && force >= 1 && force <= 20);
        long best = 0;
        int row = -1;
        for (int y = 19; y >= 0; y--) {
            long claims = copy().blow(0, y, 2, 0, radius, force, 12)[3];
            if (claims > 0 && claims >= best) {
                best = claims;
                row = y;
            }
        }
        return row;
    }

    long advise(int y, int radius, int force) {
        argument(y >= 0 && y <= 19 && radius >= 0 && radius <= 5 && force >= 1 && force <= 20);
        long without = copy().blow(0, y, 2, 0, radius, force, 12)[2];
        long least = Long.MAX_VALUE;
        int best = -1;
        for (int h = 0; h < houses.size(); h++) {
            if (houses.get(h)[7] == 0) {
                Model m = copy();
                m.houses.get(h)[7] = 1;
                long damage = m.blow(0, y, 2, 0, radius, force, 12)[2];
                if (damage < least) {
                    least = damage;
                    best = h;
                }
            }
        }
        return least < without ? best : -1;
    }

    double loss() {
        long[] all = over(-1, -1);
        return all[3] == 0 ? 0.0 : (double) all[4] / (double) all[3];
    }

    long digest() {
        List<Long> all = new ArrayList<>();
        for (int what = 0; what < 11; what++) {
            all.add(count(what));
        }
        for (int g = 0; g < growers.size(); g++) {
            for (int what = 0; what < 10; what++) {
                all.add(grower(g, what));
            }
        }
        for (int h = 0; h < houses.size(); h++) {
            for (int what = 0; what < 11; what++) {
                all.add(house(h, what));
            }
            for (int y = 0; y < 20; y++) {
                for (int x = 0; x < 20; x++) {
                    if (at[y][x] == h) {
                        all.add((long) state[y][x]);
                    }
                }
            }
        }
        layers.forEach(r -> java.util.Arrays.stream(r).forEach(all::add));
        storms.forEach(r -> java.util.Arrays.stream(r).forEach(all::add));
        long d = 541;
        for (long x : all) {
            d = d * 31 + x;
        }
        return d;
    }
}
