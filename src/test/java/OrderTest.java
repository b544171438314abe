import java.util.Arrays;

/**
 * "If several exceptions apply, the one that is named first is thrown" and "A method that throws an exception changes
 * nothing": for each call that names more than one, every pair that can apply at once; and how many there may be at most.
 */
public final class OrderTest {
    private static final Class<IndexOutOfBoundsException> INDEX = IndexOutOfBoundsException.class;
    private static final Class<IllegalArgumentException> ARGUMENT = IllegalArgumentException.class;
    private static final Class<IllegalStateException> STATE = IllegalStateException.class;

    private static final int[][] WRONG_HOUSES = {
        {1, 1, 0, 1, 1, 1}, {1, 1, 7, 1, 1, 1}, {1, 1, 1, 0, 1, 1}, {1, 1, 1, 7, 1, 1}, {-1, 1, 3, 1, 1, 1},
        {1, -1, 1, 3, 1, 1}, {15, 1, 6, 1, 1, 1}, {1, 15, 1, 6, 1, 1}, {1, 1, 1, 1, 0, 1}, {1, 1, 1, 1, 10, 1},
        {1, 1, 1, 1, 1, 0}, {1, 1, 1, 1, 1, 1001},
    };

    public static void main(String[] args) {
        sixGrowers();
        buildOrder();
        twelveHouses();
        insureOrder();
        mendRefused();
        fundRefused();
        sixLayers();
        thirtyStorms();
        wouldBeOrder();
        twoIndices();
        Check.finish();
    }

    // P2 "if there are 6"; the coins are named first.
    private static void sixGrowers() {
        HailPool pool = new HailPool();
        for (int g = 0; g < 6; g++) {
            Check.due("P2 addGrower " + g, pool.addGrower(g), g);
        }
        for (int coins : new int[] {0, 1, 1000000}) {
            Check.refused(pool, STATE, "P2 a seventh with " + coins, () -> pool.addGrower(coins));
        }
        for (int coins : new int[] {-1, 1000001, Integer.MIN_VALUE, Integer.MAX_VALUE}) {
            Check.refused(pool, ARGUMENT, "P2 a seventh with " + coins, () -> pool.addGrower(coins));
        }
        Check.due("P2 six are there", pool.count(0), 6);
        Check.due("P2 the last one's coins", pool.grower(5, 0), 5);
    }

    // P3: the grower is named first, then all that is wrong of the house, then what stands there already.
    private static void buildOrder() {
        HailPool pool = Land.grower(0);
        pool.build(0, 0, 0, 4, 4, 5, 10);
        for (int[] w : WRONG_HOUSES) {
            String house = Arrays.toString(w);
            // Each of them but one off the land would overlap too.
            Check.refused(pool, ARGUMENT, "P3 wrong " + house,
                    () -> pool.build(0, w[0], w[1], w[2], w[3], w[4], w[5]));
            Check.refused(pool, INDEX, "P3 of nobody, wrong " + house,
                    () -> pool.build(1, w[0], w[1], w[2], w[3], w[4], w[5]));
            Check.refused(pool, INDEX, "P3 of -1, wrong " + house,
                    () -> pool.build(-1, w[0], w[1], w[2], w[3], w[4], w[5]));
        }
        Check.refused(pool, INDEX, "P3 of nobody, an overlap", () -> pool.build(1, 0, 0, 1, 1, 1, 1));
        Check.refused(pool, STATE, "P3 an overlap", () -> pool.build(0, 0, 0, 1, 1, 1, 1));
        Check.refused(pool, STATE, "P3 an overlap of the last pane", () -> pool.build(0, 3, 3, 6, 6, 1, 1));
        Check.due("P3 what overlaps has no panes", pool.pane(4, 4), -1);
        Check.due("P3 beside and below it", pool.build(0, 4, 0, 1, 4, 1, 1), 1);
        Check.due("P3 below it", pool.build(0, 0, 4, 5, 1, 1, 1), 2);
    }

    // P3 "or there are 12"
    private static void twelveHouses() {
        HailPool pool = Land.grower(0);
        for (int h = 0; h < 12; h++) {
            Check.due("P3 house " + h, pool.build(0, h, 1, 1, 2, 5, 10), h);
        }
        Check.refused(pool, STATE, "P3 a thirteenth", () -> pool.build(0, 19, 19, 1, 1, 1, 1));
        Check.refused(pool, STATE, "P3 a thirteenth that overlaps", () -> pool.build(0, 0, 0, 6, 6, 1, 1));
        Check.refused(pool, INDEX, "P3 a thirteenth of nobody", () -> pool.build(1, 19, 19, 1, 1, 1, 1));
        for (int[] w : WRONG_HOUSES) {
            Check.refused(pool, ARGUMENT, "P3 a thirteenth, wrong " + Arrays.toString(w),
                    () -> pool.build(0, w[0], w[1], w[2], w[3], w[4], w[5]));
            Check.refused(pool, INDEX, "P3 a thirteenth of nobody, wrong " + Arrays.toString(w),
                    () -> pool.build(1, w[0], w[1], w[2], w[3], w[4], w[5]));
        }
        Check.due("P3 no pane of a thirteenth", pool.pane(19, 19), -1);
        Check.due("P3 nor of one that overlaps", pool.pane(0, 0), -1);
        Check.due("P3 twelve are there", pool.count(1), 12);
    }

    // P5: the grower is named first.
    private static void insureOrder() {
        HailPool pool = Land.some();
        int[][] wrong = {{-1, 1, 1}, {10001, 1, 1}, {0, 0, 1}, {0, 100001, 1}, {0, 1, 0}, {0, 1, 101}, {-1, 0, 0}};
        for (int[] w : wrong) {
            Check.refused(pool, ARGUMENT, "P5 wrong " + Arrays.toString(w), () -> pool.insure(0, w[0], w[1], w[2]));
            Check.refused(pool, INDEX, "P5 of nobody, " + Arrays.toString(w), () -> pool.insure(2, w[0], w[1], w[2]));
            Check.refused(pool, INDEX, "P5 of -1, " + Arrays.toString(w), () -> pool.insure(-1, w[0], w[1], w[2]));
        }
        Check.due("P5 the policy stays", pool.insure(0, 1, 1, 1), 300);
    }

    // P6 "if the grower does not have the coins": one too few, just enough, and nothing to pay.
    private static void mendRefused() {
        for (int coins = 129; coins <= 131; coins++) {
            HailPool pool = Land.grower(coins);
            pool.build(0, 0, 0, 2, 1, 9, 87);
            Check.due("P6 nothing is lost", pool.mend(0), 0);
            Land.breakPane(pool, 0, 0);
            Land.crackPane(pool, 1, 0);
            // 87 and 87 / 2, which is 43.
            Check.due("P6 what is lost", pool.house(0, 10), 130);
            if (coins < 130) {
                Check.refused(pool, STATE, "P6 one coin too few", () -> pool.mend(0));
                Check.due("P6 nothing is mended", pool.pane(0, 0) * 10 + pool.pane(1, 0), 21);
                Check.refused(pool, INDEX, "P6 no such house, and too few coins", () -> pool.mend(1));
                continue;
            }
            Check.due("P6 with " + coins, pool.mend(0), 130);
            Check.due("P6 what is left of " + coins, pool.grower(0, 0), coins - 130);
            Check.due("P6 all is mended", pool.house(0, 8) + pool.house(0, 9) + pool.house(0, 10), 0);
        }
        HailPool poor = Land.pane(0, 4, 4, 1, 1000);
        Check.due("P6 no coins, but nothing to pay", poor.mend(0), 0);
        // What the pool owes to a grower is no coin of this one yet, nor are another one's coins.
        poor.addGrower(1000000);
        poor.insure(0, 0, 100000, 1);
        Land.breakPane(poor, 4, 4);
        Check.refused(poor, STATE, "P6 owed, but not paid", () -> poor.mend(0));
        poor.fund(1000);
        Check.refused(poor, STATE, "P6 the pool's coins are not the grower's", () -> poor.mend(0));
        poor.endYear();
        Check.due("P6 paid at the end of the year", poor.mend(0), 1000);
    }

    // P10 "if it would have more than 100000000"; the coins are named first.
    private static void fundRefused() {
        HailPool pool = new HailPool();
        for (int i = 1; i <= 99; i++) {
            pool.fund(1000000);
        }
        Check.due("P10 up to one less than the most", pool.fund(999999), 99999999);
        Check.refused(pool, STATE, "P10 one more than the most", () -> pool.fund(2));
        Check.refused(pool, STATE, "P10 many more than the most", () -> pool.fund(1000000));
        Check.due("P10 the most", pool.fund(1), 100000000);
        Check.refused(pool, STATE, "P10 one more", () -> pool.fund(1));
        for (int coins : new int[] {0, -1, 1000001, Integer.MIN_VALUE, Integer.MAX_VALUE}) {
            Check.refused(pool, ARGUMENT, "P10 " + coins + " at the most", () -> pool.fund(coins));
        }
        // Premiums and layers may bring it above that: only funds are refused.
        pool.addGrower(1000);
        pool.build(0, 0, 0, 2, 1, 1, 1000);
        pool.insure(0, 0, 100000, 100);
        Check.due("P10 a premium", pool.endYear(), 200);
        Check.due("P10 beyond the most by a premium", pool.count(3), 100000200);
        pool.addLayer(0, 1000, 100);
        pool.addLayer(0, 1000, 100);
        Land.breakPane(pool, 0, 0);
        Check.due("P10 beyond the most by layers", pool.count(3), 100001200);
        Check.refused(pool, STATE, "P10 far beyond it", () -> pool.fund(1));
        Check.refused(pool, ARGUMENT, "P10 wrong, far beyond it", () -> pool.fund(0));
    }

    // P11 "if there are 6"; the numbers are named first.
    private static void sixLayers() {
        HailPool pool = new HailPool();
        for (int l = 0; l < 6; l++) {
            Check.due("P11 addLayer " + l, pool.addLayer(l, 10 + l, 20 + l), l);
        }
        Check.refused(pool, STATE, "P11 a seventh", () -> pool.addLayer(0, 1, 1));
        Check.refused(pool, STATE, "P11 a seventh, the greatest", () -> pool.addLayer(100000, 100000, 100));
        int[][] wrong = {{-1, 1, 1}, {100001, 1, 1}, {0, 0, 1}, {0, 100001, 1}, {0, 1, 0}, {0, 1, 101}};
        for (int[] w : wrong) {
            Check.refused(pool, ARGUMENT, "P11 a seventh, wrong " + Arrays.toString(w),
                    () -> pool.addLayer(w[0], w[1], w[2]));
        }
        Check.due("P11 six are there", pool.count(2), 6);
        Check.due("P11 the last one's limit", pool.layer(5, 1), 15);
    }

    // P15 "if there were 30 in this year"; the numbers are named first.
    private static void thirtyStorms() {
        HailPool pool = Land.pane(0, 5, 5, 9, 10);
        for (int s = 0; s < 29; s++) {
            pool.storm(19, 19, 0, 0, 0, 1, 1);
        }
        Check.refused(pool, INDEX, "P16 the 30th is not told yet", () -> pool.told(29, 0));
        Check.due("P15 the 30th", Land.crackPane(pool, 5, 5), 0);
        Check.due("P16 the 30th is told", pool.told(29, 2), 5);
        Check.due("P16 the first is still told", pool.told(0, 2), 0);
        Check.due("P13 storms of this year", pool.count(5), 30);
        Check.refused(pool, STATE, "P15 the 31st", () -> Land.breakPane(pool, 5, 5));
        Check.due("P15 it broke nothing", pool.pane(5, 5), 1);
        for (int[] w : Land.WRONG_STORMS) {
            Check.refused(pool, ARGUMENT, "P15 the 31st, wrong " + Arrays.toString(w),
                    () -> pool.storm(w[0], w[1], w[2], w[3], w[4], w[5], w[6]));
        }
        Check.refused(pool, INDEX, "P16 the 31st is not told", () -> pool.told(30, 0));
        // "how many storms there were does not matter"
        Check.unchanged(pool, "P17 what the 31st would do", () -> pool.wouldBe(5, 5, 0, 0, 0, 20, 1, 1), 1);
        pool.insure(0, 0, 100, 1);
        Check.unchanged(pool, "P18 the row of the 31st", () -> pool.worst(1, 20), 4);
        Check.unchanged(pool, "P19 the house of the 31st", () -> pool.advise(5, 1, 8), 0);
        pool.endYear();
        for (int s = 0; s < 30; s++) {
            pool.storm(19, 19, 0, 0, 0, 1, 1);
        }
        Check.refused(pool, STATE, "P15 the 31st of the next year", () -> pool.storm(19, 19, 0, 0, 0, 1, 1));
    }

    // P17: the storm's numbers are named first, then what.
    private static void wouldBeOrder() {
        for (int what : new int[] {-1, 0, 5, 6, Integer.MIN_VALUE, Integer.MAX_VALUE}) {
            HailPool pool = Land.some();
            for (int[] w : Land.WRONG_STORMS) {
                Check.refused(pool, ARGUMENT, "P17 wrong " + Arrays.toString(w) + ", what " + what,
                        () -> pool.wouldBe(w[0], w[1], w[2], w[3], w[4], w[5], w[6], what));
            }
            if (what < 0 || what > 5) {
                Check.refused(pool, INDEX, "P17 what " + what, () -> pool.wouldBe(0, 0, 0, 0, 0, 1, 1, what));
            }
        }
    }

    // Where both numbers are wrong, the one exception for both is thrown.
    private static void twoIndices() {
        HailPool pool = Land.some();
        for (int wrong : new int[] {-1, 100, Integer.MIN_VALUE, Integer.MAX_VALUE}) {
            Check.refused(pool, INDEX, "P7 both " + wrong, () -> pool.grower(wrong, wrong));
            Check.refused(pool, INDEX, "P8 both " + wrong, () -> pool.house(wrong, wrong));
            Check.refused(pool, INDEX, "P9 both " + wrong, () -> pool.pane(wrong, wrong));
            Check.refused(pool, INDEX, "P12 both " + wrong, () -> pool.layer(wrong, wrong));
            Check.refused(pool, INDEX, "P16 both " + wrong, () -> pool.told(wrong, wrong));
            Check.refused(pool, ARGUMENT, "P18 both " + wrong, () -> pool.worst(wrong, wrong));
            Check.refused(pool, ARGUMENT, "P19 all " + wrong, () -> pool.advise(wrong, wrong, wrong));
        }
    }
}
