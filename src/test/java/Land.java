/** Pools that several tests begin with, and storms that are refused. */
final class Land {
    /** Storms with one number just beyond its bounds, and one far beyond. */
    static final int[][] WRONG_STORMS = {
        {-21, 0, 0, 0, 0, 1, 1}, {40, 0, 0, 0, 0, 1, 1}, {0, -21, 0, 0, 0, 1, 1}, {0, 40, 0, 0, 0, 1, 1},
        {0, 0, -4, 0, 0, 1, 1}, {0, 0, 4, 0, 0, 1, 1}, {0, 0, 0, -4, 0, 1, 1}, {0, 0, 0, 4, 0, 1, 1},
        {0, 0, 0, 0, -1, 1, 1}, {0, 0, 0, 0, 6, 1, 1}, {0, 0, 0, 0, 0, 0, 1}, {0, 0, 0, 0, 0, 21, 1},
        {0, 0, 0, 0, 0, 1, 0}, {0, 0, 0, 0, 0, 1, 31}, {Integer.MAX_VALUE, 0, 0, 0, 0, 1, 1},
    };

    private Land() {
    }

    /** One grower with coins, without a house. */
    static HailPool grower(int coins) {
        HailPool pool = new HailPool();
        pool.addGrower(coins);
        return pool;
    }

    /** One grower with coins, and one house of a single pane at (x, y). */
    static HailPool pane(int coins, int x, int y, int strength, int value) {
        HailPool pool = grower(coins);
        pool.build(0, x, y, 1, 1, strength, value);
        return pool;
    }

    /** Two growers, three houses, two layers, and two storms, all on little land. */
    static HailPool some() {
        HailPool pool = new HailPool();
        pool.addGrower(1000);
        pool.addGrower(20);
        pool.build(0, 0, 0, 2, 2, 3, 11);
        pool.build(1, 5, 5, 3, 2, 4, 50);
        pool.build(0, 12, 3, 1, 4, 9, 7);
        pool.insure(0, 5, 300, 10);
        pool.insure(1, 0, 500, 20);
        pool.addLayer(10, 30, 50);
        pool.addLayer(0, 20, 10);
        pool.fund(40);
        pool.storm(0, 0, 1, 1, 1, 9, 8);
        pool.storm(5, 5, 1, 0, 0, 20, 2);
        return pool;
    }

    /** As much as there may be of everything: 6 growers, 12 houses of 5 * 6 panes, 6 layers and 30 storms. */
    static HailPool full() {
        HailPool pool = new HailPool();
        for (int g = 0; g < 6; g++) {
            pool.addGrower(1000 * g);
            pool.insure(g, 10 * g, 100000, 1 + g);
            pool.addLayer(100 * g, 1000, 10 + g);
        }
        for (int h = 0; h < 12; h++) {
            pool.build(h % 6, 5 * (h % 4), 7 * (h / 4), 5, 6, 1 + h % 9, 100 + h);
        }
        pool.fund(5000);
        for (int s = 0; s < 30; s++) {
            pool.storm(s % 20, (7 * s) % 20, 1, s % 3 - 1, s % 3, 4 + s % 12, 1 + s % 5);
        }
        return pool;
    }

    /** Lets the pane at (x, y) of a house without a net break, whatever its strength. */
    static int breakPane(HailPool pool, int x, int y) {
        return pool.storm(x, y, 0, 0, 0, 20, 2);
    }

    /** Lets the whole pane at (x, y) of a house without a net crack. */
    static int crackPane(HailPool pool, int x, int y) {
        return pool.storm(x, y, 0, 0, 0, 20, 1);
    }
}
