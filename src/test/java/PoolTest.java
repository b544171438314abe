/** Promises 10 to 14: the pool's coins, its layers, what it counts, the end of a year. */
public final class PoolTest {
    private static final Class<IndexOutOfBoundsException> INDEX = IndexOutOfBoundsException.class;
    private static final Class<IllegalArgumentException> ARGUMENT = IllegalArgumentException.class;
    private static final Class<IllegalStateException> STATE = IllegalStateException.class;

    public static void main(String[] args) {
        fund();
        addLayer();
        layer();
        count();
        endYearPremiums();
        endYearFactors();
        endYearDebts();
        Check.finish();
    }

    // Promise 10
    private static void fund() {
        HailPool pool = new HailPool();
        Check.refused(pool, ARGUMENT, "P10 fund(0)", () -> pool.fund(0));
        Check.refused(pool, ARGUMENT, "P10 fund(-1)", () -> pool.fund(-1));
        Check.refused(pool, ARGUMENT, "P10 fund(1000001)", () -> pool.fund(1000001));
        Check.refused(pool, ARGUMENT, "P10 fund(most)", () -> pool.fund(Integer.MAX_VALUE));
        Check.due("P10 fund(1)", pool.fund(1), 1);
        for (int i = 1; i < 100; i++) {
            Check.due("P10 fund(1000000)", pool.fund(1000000), i * 1000000 + 1);
        }
        Check.refused(pool, STATE, "P10 one too many", () -> pool.fund(1000000));
        Check.due("P10 up to the most", pool.fund(999999), 100000000);
        Check.refused(pool, STATE, "P10 beyond the most", () -> pool.fund(1));
        Check.refused(pool, ARGUMENT, "P10 wrong coins, and too many", () -> pool.fund(1000001));
        Check.due("P10 count(3)", pool.count(3), 100000000);
    }

    // Promise 11
    private static void addLayer() {
        HailPool pool = new HailPool();
        int[][] wrong = {{-1, 1, 1}, {100001, 1, 1}, {0, 0, 1}, {0, 100001, 1}, {0, 1, 0}, {0, 1, 101}};
        for (int[] w : wrong) {
            Check.refused(pool, ARGUMENT, "P11 addLayer(" + java.util.Arrays.toString(w) + ")",
                    () -> pool.addLayer(w[0], w[1], w[2]));
        }
        Check.due("P11 the greatest", pool.addLayer(100000, 100000, 100), 0);
        Check.due("P11 what it still has", pool.layer(0, 3), 200000);
        Check.due("P11 the least", pool.addLayer(0, 1, 1), 1);
        Check.due("P11 what it still has", pool.layer(1, 3), 2);
        for (int l = 2; l < 6; l++) {
            Check.due("P11 layer " + l, pool.addLayer(l, 10, 10), l);
        }
        Check.refused(pool, STATE, "P11 the seventh", () -> pool.addLayer(0, 1, 1));
        Check.refused(pool, ARGUMENT, "P11 the seventh, wrong", () -> pool.addLayer(0, 0, 1));
        Check.due("P11 layers", pool.count(2), 6);
    }

    // Promise 12
    private static void layer() {
        HailPool pool = new HailPool();
        pool.addGrower(0);
        pool.build(0, 0, 0, 1, 1, 1, 1000);
        pool.insure(0, 0, 100000, 1);
        pool.addLayer(300, 500, 33);
        pool.addLayer(1000, 10, 100);
        pool.addLayer(999, 10, 100);
        pool.storm(0, 0, 0, 0, 0, 20, 2);
        int[][] want = {{300, 500, 33, 1000 - 165, 165}, {1000, 10, 100, 20, 0}, {999, 10, 100, 19, 1}};
        for (int l = 0; l < 3; l++) {
            for (int what = 0; what <= 4; what++) {
                Check.due("P12 layer(" + l + ", " + what + ")", pool.layer(l, what), want[l][what]);
            }
        }
        pool.endYear();
        Check.due("P12 all it has for a year", pool.layer(0, 3), 1000);
        Check.due("P12 what it has paid in all years", pool.layer(0, 4), 165);
        Check.refused(pool, INDEX, "P12 layer -1", () -> pool.layer(-1, 0));
        Check.refused(pool, INDEX, "P12 layer 3", () -> pool.layer(3, 0));
        Check.refused(pool, INDEX, "P12 what -1", () -> pool.layer(0, -1));
        Check.refused(pool, INDEX, "P12 what 5", () -> pool.layer(0, 5));
    }

    // Promise 13
    private static void count() {
        HailPool pool = new HailPool();
        pool.addGrower(0);
        pool.addGrower(0);
        pool.addGrower(0);
        pool.build(0, 0, 0, 2, 2, 1, 101);
        pool.build(1, 4, 0, 3, 1, 1, 11);
        pool.insure(0, 0, 100000, 1);
        pool.insure(1, 0, 100000, 1);
        pool.addLayer(0, 1, 100);
        pool.endYear();
        pool.endYear();
        pool.fund(20);
        pool.storm(0, 0, 0, 0, 0, 20, 2);
        pool.storm(4, 0, 1, 0, 0, 20, 2);
        int[] want = {3, 2, 1, 0, 101 + 10 - 22, 2, 2, 7, 2, 1, 101 + 10};
        for (int what = 0; what <= 10; what++) {
            Check.due("P13 count(" + what + ")", pool.count(what), want[what]);
        }
        Check.refused(pool, INDEX, "P13 count(-1)", () -> pool.count(-1));
        Check.refused(pool, INDEX, "P13 count(11)", () -> pool.count(11));
    }

    // Promise 14
    private static void endYearPremiums() {
        HailPool pool = new HailPool();
        Check.due("P14 a year of nobody", pool.endYear(), 0);
        Check.due("P14 years", pool.count(6), 1);
        pool.addGrower(1000000);
        pool.addGrower(1000);
        pool.addGrower(2);
        pool.addGrower(1000);
        pool.build(0, 0, 0, 6, 6, 9, 1000);
        pool.build(0, 6, 0, 6, 6, 9, 1000);
        pool.build(1, 0, 10, 1, 1, 9, 999);
        pool.build(2, 2, 10, 1, 1, 9, 999);
        pool.build(3, 4, 10, 1, 1, 9, 999);
        pool.insure(0, 0, 1, 100);
        pool.insure(1, 0, 1, 3);
        pool.insure(2, 0, 1, 100);
        // 72000 * 100 / 1000; 999 * 3 / 1000 is cut to 2; 99 is more than the coins; without a policy nothing.
        Check.due("P14 premiums", pool.endYear(), 7200 + 2 + 2);
        Check.due("P14 coins of 0", pool.grower(0, 0), 1000000 - 7200);
        Check.due("P14 coins of 1", pool.grower(1, 0), 998);
        Check.due("P14 coins of 2", pool.grower(2, 0), 0);
        Check.due("P14 coins of 3", pool.grower(3, 0), 1000);
        Check.due("P14 the pool has them", pool.count(3), 7204);
        int[] factors = {90, 90, 90, 100};
        for (int g = 0; g < 4; g++) {
            Check.due("P14 the factor of " + g, pool.grower(g, 4), factors[g]);
        }
        // 7200 * 90 / 100; 2 * 90 / 100 is cut to 1; whatever is lost.
        pool.storm(0, 0, 0, 0, 0, 20, 2);
        Check.due("P14 premiums of the next year", pool.endYear(), 6480 + 1);
        Check.due("P14 years", pool.count(6), 3);
        Check.due("P14 no storm was there", pool.count(5), 0);
        Check.refused(pool, INDEX, "P14 no storm is told", () -> pool.told(0, 0));
        Check.due("P14 nothing is claimed", pool.grower(0, 5), 0);
        Check.due("P14 panes stay broken", pool.pane(0, 0), 2);
    }

    private static void endYearFactors() {
        HailPool pool = new HailPool();
        pool.addGrower(1000000);
        pool.addGrower(0);
        pool.build(0, 0, 0, 1, 1, 1, 1000);
        pool.insure(0, 0, 100000, 100);
        int[] up = {120, 140, 160, 180, 200, 200};
        int[] paid = {100, 120, 140, 160, 180, 200};
        for (int i = 0; i < up.length; i++) {
            pool.storm(0, 0, 0, 0, 0, 20, 2);
            Check.due("P14 a premium by the factor before", pool.endYear(), paid[i]);
            Check.due("P14 20 more", pool.grower(0, 4), up[i]);
            pool.mend(0);
        }
        for (int i = 1; i <= 16; i++) {
            pool.endYear();
            Check.due("P14 10 less", pool.grower(0, 4), Math.max(50, 200 - 10 * i));
        }
        pool.storm(0, 0, 0, 0, 0, 20, 2);
        pool.endYear();
        Check.due("P14 20 more than the least", pool.grower(0, 4), 70);
        Check.due("P14 the factor without a policy", pool.grower(1, 4), 100);
        pool.mend(0);
        pool.insure(0, 499, 100000, 100);
        pool.storm(0, 0, 0, 0, 0, 20, 1);
        Check.due("P14 a single coin is claimed", pool.grower(0, 5), 1);
        pool.endYear();
        Check.due("P14 that counts", pool.grower(0, 4), 90);
    }

    private static void endYearDebts() {
        HailPool pool = new HailPool();
        pool.addGrower(0);
        pool.addGrower(10);
        pool.addGrower(0);
        for (int g = 0; g < 3; g++) {
            pool.build(g, 4 * g, 0, 1, 1, 1, 100);
        }
        pool.insure(0, 0, 100000, 100);
        pool.insure(1, 0, 100000, 100);
        pool.insure(2, 0, 100000, 100);
        pool.addLayer(1000, 50, 100);
        pool.storm(0, 0, 3, 0, 1, 20, 5);
        pool.storm(0, 0, 3, 0, 1, 20, 5);
        Check.due("P14 all is owed", pool.count(4), 300);
        pool.fund(120);
        Check.due("P14 funds do not pay at once", pool.count(4), 300);
        // Grower 1 pays 10 (its factor is 100), the others have no coins: 130 are there for the debts.
        Check.due("P14 premiums ahead of the debts", pool.endYear(), 10);
        Check.due("P14 the first is paid", pool.grower(0, 0), 100);
        Check.due("P14 nothing is owed to the first", pool.grower(0, 6), 0);
        Check.due("P14 the second is paid in part", pool.grower(1, 0), 30);
        Check.due("P14 the rest is owed", pool.grower(1, 6), 70);
        Check.due("P14 the third is owed all", pool.grower(2, 6), 100);
        Check.due("P14 the pool is empty", pool.count(3), 0);
        pool.fund(1000);
        pool.endYear();
        Check.due("P14 all is paid", pool.count(4), 0);
    }
}
