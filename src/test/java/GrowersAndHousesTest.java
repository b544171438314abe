/** Promises 1 to 9: growers, houses, nets, policies, mending, panes. */
public final class GrowersAndHousesTest {
    private static final Class<IndexOutOfBoundsException> INDEX = IndexOutOfBoundsException.class;
    private static final Class<IllegalArgumentException> ARGUMENT = IllegalArgumentException.class;
    private static final Class<IllegalStateException> STATE = IllegalStateException.class;

    public static void main(String[] args) {
        newObject();
        addGrower();
        buildBounds();
        buildState();
        setNet();
        insure();
        mend();
        grower();
        house();
        pane();
        Check.finish();
    }

    private static HailPool oneGrower(int coins) {
        HailPool pool = new HailPool();
        pool.addGrower(coins);
        return pool;
    }

    // Promise 1
    private static void newObject() {
        HailPool pool = new HailPool();
        for (int what = 0; what <= 10; what++) {
            Check.due("P1 count(" + what + ") of a new pool", pool.count(what), 0);
        }
        for (int y = 0; y < 20; y++) {
            for (int x = 0; x < 20; x++) {
                Check.due("P1 pane of a new pool", pool.pane(x, y), -1);
            }
        }
        Check.refused(pool, INDEX, "P1 grower(0, 0)", () -> pool.grower(0, 0));
        Check.refused(pool, INDEX, "P1 house(0, 0)", () -> pool.house(0, 0));
        Check.refused(pool, INDEX, "P1 layer(0, 0)", () -> pool.layer(0, 0));
        Check.refused(pool, INDEX, "P1 told(0, 0)", () -> pool.told(0, 0));
        HailPool other = oneGrower(5);
        other.build(0, 0, 0, 1, 1, 1, 1);
        Check.due("P1 pools are apart", pool.count(0), 0);
        Check.due("P1 pools are apart", pool.pane(0, 0), -1);
    }

    // Promise 2
    private static void addGrower() {
        HailPool pool = new HailPool();
        Check.refused(pool, ARGUMENT, "P2 addGrower(-1)", () -> pool.addGrower(-1));
        Check.refused(pool, ARGUMENT, "P2 addGrower(1000001)", () -> pool.addGrower(1000001));
        Check.refused(pool, ARGUMENT, "P2 addGrower(least)", () -> pool.addGrower(Integer.MIN_VALUE));
        int[] coins = {0, 1000000, 7, 8, 9, 10};
        for (int g = 0; g < 6; g++) {
            Check.due("P2 addGrower", pool.addGrower(coins[g]), g);
            Check.due("P2 count(0)", pool.count(0), g + 1);
        }
        for (int g = 0; g < 6; g++) {
            Check.due("P2 coins", pool.grower(g, 0), coins[g]);
            for (int what = 1; what <= 9; what++) {
                Check.due("P2 grower(" + g + ", " + what + ")", pool.grower(g, what), what == 4 ? 100 : 0);
            }
        }
        Check.refused(pool, STATE, "P2 the seventh", () -> pool.addGrower(0));
        Check.refused(pool, ARGUMENT, "P2 the seventh with wrong coins", () -> pool.addGrower(-1));
    }

    // Promise 3
    private static void buildBounds() {
        HailPool pool = oneGrower(0);
        Check.refused(pool, INDEX, "P3 grower -1", () -> pool.build(-1, 0, 0, 0, 1, 1, 1));
        Check.refused(pool, INDEX, "P3 grower 1", () -> pool.build(1, 0, 0, 0, 1, 1, 1));
        int[][] wrong = {
            {0, 0, 0, 1, 1, 1}, {0, 0, 7, 1, 1, 1}, {0, 0, 1, 0, 1, 1}, {0, 0, 1, 7, 1, 1}, {0, 0, -1, 1, 1, 1},
            {0, 0, 1, Integer.MIN_VALUE, 1, 1}, {-1, 0, 1, 1, 1, 1}, {0, -1, 1, 1, 1, 1}, {20, 0, 1, 1, 1, 1},
            {0, 20, 1, 1, 1, 1}, {15, 0, 6, 1, 1, 1}, {0, 15, 1, 6, 1, 1}, {Integer.MAX_VALUE, 0, 6, 1, 1, 1},
            {0, Integer.MAX_VALUE, 1, 6, 1, 1}, {0, 0, 1, 1, 0, 1}, {0, 0, 1, 1, 10, 1}, {0, 0, 1, 1, 1, 0},
            {0, 0, 1, 1, 1, 1001},
        };
        for (int[] w : wrong) {
            Check.refused(pool, ARGUMENT, "P3 build(0, " + java.util.Arrays.toString(w) + ")",
                    () -> pool.build(0, w[0], w[1], w[2], w[3], w[4], w[5]));
        }
        Check.due("P3 the far corner", pool.build(0, 14, 14, 6, 6, 9, 1000), 0);
        Check.due("P3 the near corner", pool.build(0, 0, 0, 1, 1, 1, 1), 1);
        Check.due("P3 panes", pool.count(7), 37);
        Check.due("P3 all are whole", pool.count(8) + pool.count(9), 0);
        int[] first = {0, 14, 14, 6, 6, 9, 1000, 0, 0, 0, 0};
        for (int what = 0; what <= 10; what++) {
            Check.due("P3 house(0, " + what + ")", pool.house(0, what), first[what]);
        }
        for (int y = 14; y < 20; y++) {
            for (int x = 14; x < 20; x++) {
                Check.due("P3 a pane is whole", pool.pane(x, y), 0);
            }
        }
        Check.due("P3 beside it", pool.pane(13, 14), -1);
        Check.due("P3 above it", pool.pane(14, 13), -1);
    }

    private static void buildState() {
        HailPool pool = oneGrower(0);
        pool.build(0, 5, 5, 3, 2, 1, 1);
        int[][] over = {{5, 5, 1, 1}, {7, 6, 1, 1}, {4, 4, 2, 2}, {7, 6, 2, 2}, {3, 5, 6, 1}, {6, 2, 1, 6}, {4, 4, 6, 6}};
        for (int[] o : over) {
            Check.refused(pool, STATE, "P3 an overlap " + java.util.Arrays.toString(o),
                    () -> pool.build(0, o[0], o[1], o[2], o[3], 1, 1));
        }
        Check.refused(pool, ARGUMENT, "P3 an overlap of wrong strength", () -> pool.build(0, 5, 5, 1, 1, 0, 1));
        int[][] beside = {{4, 5, 1, 2}, {8, 5, 1, 2}, {5, 4, 3, 1}, {5, 7, 3, 1}, {4, 4, 1, 1}, {8, 7, 1, 1}};
        for (int h = 0; h < beside.length; h++) {
            int[] b = beside[h];
            Check.due("P3 beside another", pool.build(0, b[0], b[1], b[2], b[3], 1, 1), h + 1);
        }
        for (int h = 7; h < 12; h++) {
            Check.due("P3 house " + h, pool.build(0, h, 19, 1, 1, 1, 1), h);
        }
        Check.refused(pool, STATE, "P3 the thirteenth", () -> pool.build(0, 0, 0, 1, 1, 1, 1));
        Check.refused(pool, ARGUMENT, "P3 the thirteenth, off the land", () -> pool.build(0, 20, 0, 1, 1, 1, 1));
        Check.refused(pool, INDEX, "P3 the thirteenth of nobody", () -> pool.build(1, 20, 0, 1, 1, 1, 1));
        Check.due("P3 houses", pool.count(1), 12);
    }

    // Promise 4
    private static void setNet() {
        HailPool pool = oneGrower(0);
        Check.refused(pool, INDEX, "P4 no house", () -> pool.setNet(0, true) ? 1 : 0);
        pool.build(0, 0, 0, 2, 1, 3, 10);
        pool.build(0, 4, 0, 2, 1, 3, 10);
        Check.refused(pool, INDEX, "P4 house -1", () -> pool.setNet(-1, true) ? 1 : 0);
        Check.refused(pool, INDEX, "P4 house 2", () -> pool.setNet(2, true) ? 1 : 0);
        Check.due("P4 none at first", pool.house(0, 7), 0);
        Check.due("P4 set", pool.setNet(0, true), false);
        Check.due("P4 it is there", pool.house(0, 7), 1);
        Check.due("P4 the other has none", pool.house(1, 7), 0);
        Check.due("P4 set again", pool.setNet(0, true), true);
        Check.due("P4 taken away", pool.setNet(0, false), true);
        Check.due("P4 taken away again", pool.setNet(0, false), false);
        Check.due("P4 it is gone", pool.house(0, 7), 0);
    }

    // Promise 5
    private static void insure() {
        HailPool pool = oneGrower(1000);
        Check.refused(pool, INDEX, "P5 grower -1", () -> pool.insure(-1, 0, 0, 1));
        Check.refused(pool, INDEX, "P5 grower 1", () -> pool.insure(1, -1, 1, 1));
        int[][] wrong = {{-1, 1, 1}, {10001, 1, 1}, {0, 0, 1}, {0, 100001, 1}, {0, 1, 0}, {0, 1, 101}};
        for (int[] w : wrong) {
            Check.refused(pool, ARGUMENT, "P5 insure(0, " + java.util.Arrays.toString(w) + ")",
                    () -> pool.insure(0, w[0], w[1], w[2]));
        }
        Check.due("P5 the first policy", pool.insure(0, 10000, 100000, 100), 0);
        Check.due("P5 the deductible", pool.grower(0, 1), 10000);
        Check.due("P5 the limit", pool.grower(0, 2), 100000);
        Check.due("P5 the rate", pool.grower(0, 3), 100);
        Check.due("P5 the next policy", pool.insure(0, 0, 1, 1), 100000);
        Check.due("P5 the next one", pool.insure(0, 3, 500, 2), 1);
        pool.build(0, 0, 0, 1, 1, 1, 300);
        pool.endYear();
        pool.storm(0, 0, 0, 0, 0, 20, 2);
        Check.due("P5 claimed", pool.grower(0, 5), 297);
        Check.due("P5 a policy behind a claim", pool.insure(0, 0, 100, 5), 500);
        Check.due("P5 the factor stays", pool.grower(0, 4), 90);
        Check.due("P5 what was claimed stays", pool.grower(0, 5), 297);
        pool.mend(0);
        Check.due("P5 a limit below what was claimed", pool.storm(0, 0, 0, 0, 0, 20, 2), 0);
        Check.due("P5 still claimed", pool.grower(0, 5), 297);
    }

    // Promise 6
    private static void mend() {
        HailPool pool = oneGrower(101);
        Check.refused(pool, INDEX, "P6 no house", () -> pool.mend(0));
        pool.addGrower(1000);
        pool.build(0, 0, 0, 2, 1, 9, 51);
        pool.build(1, 5, 0, 1, 1, 9, 51);
        Check.refused(pool, INDEX, "P6 house -1", () -> pool.mend(-1));
        Check.refused(pool, INDEX, "P6 house 2", () -> pool.mend(2));
        Check.due("P6 nothing is lost", pool.mend(0), 0);
        pool.storm(0, 0, 1, 0, 0, 20, 2);
        Check.due("P6 two cracked panes", pool.mend(0), 50);
        Check.due("P6 the coins behind it", pool.grower(0, 0), 51);
        Check.due("P6 the other's coins", pool.grower(1, 0), 1000);
        Check.due("P6 the pool gets nothing", pool.count(3), 0);
        Check.due("P6 whole again", pool.pane(0, 0) + pool.pane(1, 0), 0);
        pool.storm(0, 0, 0, 0, 0, 20, 2);
        Check.due("P6 all the coins", pool.mend(0), 51);
        Check.due("P6 none are left", pool.grower(0, 0), 0);
        pool.storm(0, 0, 0, 0, 0, 20, 1);
        Check.refused(pool, STATE, "P6 no coins", () -> pool.mend(0));
        Check.due("P6 it stays cracked", pool.pane(0, 0), 1);
        pool.storm(5, 0, 0, 0, 0, 20, 2);
        Check.due("P6 the second house", pool.mend(1), 51);
        Check.due("P6 the first one is not mended", pool.pane(0, 0), 1);

        HailPool cheap = oneGrower(0);
        cheap.build(0, 0, 0, 1, 1, 1, 1);
        cheap.storm(0, 0, 0, 0, 0, 20, 1);
        Check.due("P6 a crack in a pane of 1 costs nothing", cheap.mend(0), 0);
        Check.due("P6 and is mended", cheap.pane(0, 0), 0);
    }

    // Promise 7
    private static void grower() {
        HailPool pool = oneGrower(100);
        pool.addGrower(5);
        pool.build(1, 0, 0, 2, 2, 9, 11);
        pool.build(1, 4, 0, 3, 1, 9, 100);
        pool.build(0, 8, 0, 1, 1, 9, 7);
        pool.insure(1, 10, 1000, 20);
        pool.fund(30);
        pool.storm(0, 0, 0, 0, 1, 14, 1);
        pool.storm(4, 0, 0, 0, 0, 20, 2);
        int[] want = {5 + 30, 10, 1000, 20, 100, 10 + 90, 70, 2, 344, 20 + 100};
        for (int what = 0; what <= 9; what++) {
            Check.due("P7 grower(1, " + what + ")", pool.grower(1, what), want[what]);
        }
        int[] other = {100, 0, 0, 0, 100, 0, 0, 1, 7, 0};
        for (int what = 0; what <= 9; what++) {
            Check.due("P7 grower(0, " + what + ")", pool.grower(0, what), other[what]);
        }
        Check.refused(pool, INDEX, "P7 grower -1", () -> pool.grower(-1, 0));
        Check.refused(pool, INDEX, "P7 grower 2", () -> pool.grower(2, 0));
        Check.refused(pool, INDEX, "P7 what -1", () -> pool.grower(0, -1));
        Check.refused(pool, INDEX, "P7 what 10", () -> pool.grower(0, 10));
    }

    // Promise 8
    private static void house() {
        HailPool pool = oneGrower(100);
        pool.addGrower(5);
        pool.build(0, 0, 0, 1, 1, 1, 1);
        pool.build(1, 4, 6, 3, 2, 5, 21);
        pool.setNet(1, true);
        pool.storm(4, 6, 1, 0, 0, 11, 3);
        pool.storm(4, 6, 0, 0, 0, 11, 1);
        int[] want = {1, 4, 6, 3, 2, 5, 21, 1, 2, 1, 10 + 10 + 21};
        for (int what = 0; what <= 10; what++) {
            Check.due("P8 house(1, " + what + ")", pool.house(1, what), want[what]);
        }
        Check.refused(pool, INDEX, "P8 house -1", () -> pool.house(-1, 0));
        Check.refused(pool, INDEX, "P8 house 2", () -> pool.house(2, 0));
        Check.refused(pool, INDEX, "P8 what -1", () -> pool.house(0, -1));
        Check.refused(pool, INDEX, "P8 what 11", () -> pool.house(0, 11));
    }

    // Promise 9
    private static void pane() {
        HailPool pool = oneGrower(100);
        pool.build(0, 17, 2, 3, 1, 3, 10);
        pool.storm(18, 2, 0, 0, 0, 20, 1);
        pool.storm(19, 2, 0, 0, 0, 20, 2);
        Check.due("P9 whole", pool.pane(17, 2), 0);
        Check.due("P9 cracked", pool.pane(18, 2), 1);
        Check.due("P9 broken", pool.pane(19, 2), 2);
        Check.due("P9 no house", pool.pane(2, 17), -1);
        Check.due("P9 no house", pool.pane(19, 19), -1);
        Check.due("P9 not the next row's beginning", pool.pane(0, 3), -1);
        int[][] wrong = {{-1, 0}, {20, 0}, {0, -1}, {0, 20}, {Integer.MAX_VALUE, 0}, {0, Integer.MIN_VALUE}};
        for (int[] w : wrong) {
            Check.refused(pool, INDEX, "P9 pane(" + w[0] + ", " + w[1] + ")", () -> pool.pane(w[0], w[1]));
        }
    }
}
