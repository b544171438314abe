import java.util.Arrays;

/** Promises 15 to 21: storms, what they would do, advice, the loss, the digest. */
public final class StormsTest {
    private static final Class<IndexOutOfBoundsException> INDEX = IndexOutOfBoundsException.class;
    private static final Class<IllegalArgumentException> ARGUMENT = IllegalArgumentException.class;
    private static final Class<IllegalStateException> STATE = IllegalStateException.class;

    public static void main(String[] args) {
        stormBounds();
        hailByDistance();
        crackAndBreak();
        nets();
        ways();
        claims();
        layers();
        payments();
        told();
        wouldBe();
        worst();
        advise();
        loss();
        digest();
        Check.finish();
    }

    private static HailPool oneHouse(int x, int y, int wide, int deep, int strength, int value) {
        HailPool pool = new HailPool();
        pool.addGrower(1000000);
        pool.build(0, x, y, wide, deep, strength, value);
        return pool;
    }

    // Promise 15
    private static void stormBounds() {
        HailPool pool = oneHouse(0, 0, 1, 1, 1, 1);
        for (int[] w : Land.WRONG_STORMS) {
            Check.refused(pool, ARGUMENT, "P15 storm(" + Arrays.toString(w) + ")",
                    () -> pool.storm(w[0], w[1], w[2], w[3], w[4], w[5], w[6]));
        }
        int[][] edges = {{-20, -20, -3, -3, 0, 1, 1}, {39, 39, 3, 3, 5, 20, 30}, {-20, 39, 3, -3, 5, 20, 30}};
        for (int[] e : edges) {
            Check.due("P15 storm(" + Arrays.toString(e) + ")", pool.storm(e[0], e[1], e[2], e[3], e[4], e[5], e[6]), 0);
        }
        for (int s = 3; s < 30; s++) {
            pool.storm(39, 39, 0, 0, 0, 1, 1);
            Check.due("P15 storms of this year", pool.count(5), s + 1);
        }
        Check.refused(pool, STATE, "P15 the 31st", () -> pool.storm(0, 0, 0, 0, 0, 1, 1));
        Check.refused(pool, ARGUMENT, "P15 the 31st, wrong", () -> pool.storm(0, 0, 0, 0, 0, 1, 0));
        Check.due("P15 the 30th is told", pool.told(29, 0), 0);
        pool.endYear();
        pool.storm(0, 0, 0, 0, 0, 20, 1);
        Check.due("P15 the next year's first", pool.count(5), 1);
    }

    private static void hailByDistance() {
        // Force 7 about (8, 8), strength 2: 7, 5 and 3 crack, 1 does not; the radius lets it go that far.
        HailPool pool = oneHouse(5, 5, 6, 6, 2, 10);
        pool.storm(8, 8, 0, 0, 3, 7, 1);
        for (int y = 5; y < 11; y++) {
            for (int x = 5; x < 11; x++) {
                int away = Math.max(Math.abs(x - 8), Math.abs(y - 8));
                Check.due("P15 pane(" + x + ", " + y + ")", pool.pane(x, y), away <= 2 ? 1 : 0);
            }
        }
        HailPool narrow = oneHouse(5, 5, 6, 6, 2, 10);
        narrow.storm(8, 8, 0, 0, 1, 20, 1);
        Check.due("P15 no farther than the radius", narrow.house(0, 8), 9);
    }

    private static void crackAndBreak() {
        for (int strength = 1; strength <= 9; strength++) {
            for (int force = 1; force <= 20; force++) {
                HailPool pool = oneHouse(3, 3, 1, 1, strength, 10);
                pool.storm(3, 3, 0, 0, 0, force, 1);
                Check.due("P15 strength " + strength + ", force " + force, pool.pane(3, 3), force > strength ? 1 : 0);
                pool = oneHouse(3, 3, 1, 1, strength, 10);
                pool.storm(3, 3, 0, 0, 0, 20, 1);
                Check.due("P15 one step, one crack", pool.pane(3, 3), 1);
                pool.storm(3, 3, 0, 0, 0, force, 1);
                Check.due("P15 strength " + strength + ", force " + force + " on a crack", pool.pane(3, 3),
                        2 * force > strength ? 2 : 1);
                pool.storm(3, 3, 0, 0, 0, 20, 30);
                Check.due("P15 broken stays broken", pool.pane(3, 3), 2);
            }
        }
    }

    private static void nets() {
        HailPool pool = oneHouse(3, 3, 1, 1, 5, 10);
        pool.setNet(0, true);
        pool.storm(3, 3, 0, 0, 0, 10, 30);
        Check.due("P15 10 less 5 is not more than 5", pool.pane(3, 3), 0);
        pool.storm(3, 3, 0, 0, 0, 11, 1);
        Check.due("P15 11 less 5 is", pool.pane(3, 3), 1);
        pool.storm(3, 3, 0, 0, 0, 7, 1);
        Check.due("P15 twice 7 less 5 is not", pool.pane(3, 3), 1);
        pool.storm(3, 3, 0, 0, 0, 8, 1);
        Check.due("P15 twice 8 less 5 is", pool.pane(3, 3), 2);
    }

    private static void ways() {
        HailPool pool = oneHouse(6, 6, 6, 6, 1, 10);
        // From (-2, 21) by (3, -3): (7, 12) is off the house, (10, 9) on it.
        pool.storm(-2, 21, 3, -3, 0, 20, 5);
        Check.due("P15 one pane of the way", pool.count(8), 1);
        Check.due("P15 that pane", pool.pane(10, 9), 1);
        pool = oneHouse(6, 6, 6, 6, 1, 10);
        pool.storm(12, 5, -1, 2, 0, 20, 4);
        Check.due("P15 a way to the west: (11, 7)", pool.pane(11, 7), 1);
        Check.due("P15 a way to the west: (10, 9)", pool.pane(10, 9), 1);
        Check.due("P15 a way to the west: (9, 11)", pool.pane(9, 11), 1);
        Check.due("P15 nothing else", pool.count(8), 3);
        pool = oneHouse(6, 6, 6, 6, 1, 10);
        pool.storm(-20, 8, 1, 0, 0, 20, 26);
        Check.due("P15 the last step is not reached", pool.count(8), 0);
        pool.storm(-20, 8, 1, 0, 0, 20, 27);
        Check.due("P15 the last step is reached", pool.pane(6, 8), 1);
        Check.due("P15 by it alone", pool.count(8), 1);
    }

    private static void claims() {
        HailPool pool = oneHouse(0, 0, 2, 1, 1, 100);
        Check.due("P15 no claim without a policy", pool.storm(0, 0, 0, 0, 0, 20, 1), 0);
        Check.due("P15 nothing is claimed", pool.grower(0, 5), 0);
        pool.insure(0, 20, 40, 1);
        Check.due("P15 the damage of this storm alone, less the deductible", pool.storm(0, 0, 0, 0, 0, 20, 1), 30);
        Check.due("P15 at most the rest of the limit", pool.storm(1, 0, 0, 0, 0, 20, 1), 10);
        Check.due("P15 nothing beyond the limit", pool.storm(1, 0, 0, 0, 0, 20, 1), 0);
        Check.due("P15 claimed", pool.grower(0, 5), 40);
        pool.endYear();
        pool.mend(0);
        pool.insure(0, 50, 40, 1);
        Check.due("P15 the damage is the deductible", pool.storm(0, 0, 0, 0, 0, 20, 1), 0);
        pool.insure(0, 10000, 40, 1);
        Check.due("P15 the deductible is more", pool.storm(0, 0, 0, 0, 0, 20, 1), 0);
    }

    private static void layers() {
        HailPool pool = oneHouse(0, 0, 6, 1, 1, 1000);
        pool.insure(0, 0, 100000, 1);
        pool.addLayer(100, 500, 50);
        pool.addLayer(0, 300, 100);
        pool.addLayer(1000, 100, 100);
        pool.addLayer(999, 100, 99);
        // Each storm breaks a pane: a claim of 1000.
        pool.storm(0, 0, 0, 0, 0, 20, 2);
        Check.due("P15 a share of the limit", pool.layer(0, 4), 250);
        Check.due("P15 whatever others pay", pool.layer(1, 4), 300);
        Check.due("P15 nothing is beyond 1000", pool.layer(2, 4), 0);
        Check.due("P15 1 * 99 / 100 is cut", pool.layer(3, 4), 0);
        Check.due("P15 what layers paid", pool.told(0, 4), 550);
        pool.storm(1, 0, 0, 0, 0, 20, 2);
        Check.due("P15 nothing is left to the second", pool.layer(1, 3), 0);
        pool.storm(2, 0, 0, 0, 0, 20, 2);
        Check.due("P15 it pays no more", pool.layer(1, 4), 600);
        Check.due("P15 the first has left", pool.layer(0, 3), 1000 - 750);
        pool.endYear();
        Check.due("P15 two limits again", pool.layer(1, 3), 600);
        HailPool rest = oneHouse(0, 0, 6, 1, 1, 1000);
        rest.insure(0, 0, 100000, 1);
        rest.addLayer(500, 300, 100);
        rest.storm(0, 0, 0, 0, 0, 20, 2);
        rest.storm(1, 0, 0, 0, 0, 20, 1);
        Check.due("P15 a claim of the attachment", rest.layer(0, 3), 300);
        rest.storm(2, 0, 0, 0, 0, 20, 2);
        Check.due("P15 up to what it has", rest.layer(0, 3), 0);
    }

    private static void payments() {
        HailPool pool = new HailPool();
        for (int g = 0; g < 3; g++) {
            pool.addGrower(0);
            pool.build(g, 4 * (2 - g), 0, 1, 1, 1, 100);
            pool.insure(g, 0, 1000, 1);
        }
        pool.addLayer(0, 1000, 10);
        pool.fund(120);
        Check.due("P15 the sum of the claims", pool.storm(0, 0, 2, 0, 0, 20, 10), 150);
        // 120 and the layer's 15 pay 50, 50 and 35.
        int[] coins = {50, 50, 35};
        for (int g = 0; g < 3; g++) {
            Check.due("P15 paid to " + g, pool.grower(g, 0), coins[g]);
            Check.due("P15 owed to " + g, pool.grower(g, 6), 50 - coins[g]);
            Check.due("P15 claimed by " + g, pool.grower(g, 5), 50);
        }
        Check.due("P15 the pool is empty", pool.count(3), 0);
        Check.due("P15 what it could not pay", pool.told(0, 5), 15);
        pool.fund(200);
        pool.storm(8, 0, 0, 0, 0, 20, 1);
        Check.due("P15 a storm pays no debts of another", pool.grower(2, 6), 15);
        Check.due("P15 the coins behind it", pool.count(3), 200 + 5 - 50);
    }

    // Promise 16
    private static void told() {
        HailPool pool = new HailPool();
        pool.addGrower(0);
        pool.addGrower(0);
        pool.build(0, 0, 0, 4, 1, 1, 101);
        pool.build(1, 6, 0, 1, 1, 1, 11);
        pool.insure(0, 10, 1000, 1);
        pool.addLayer(0, 40, 50);
        pool.fund(7);
        pool.storm(0, 0, 1, 0, 0, 20, 2);
        pool.storm(0, 0, 3, 0, 1, 20, 3);
        // The first cracks (0,0) and (1,0). In the second (0,0) and (1,0) break, and (2,0), (3,0) and (6,0) crack.
        int[][] want = {{2, 0, 100, 90, 20, 63}, {3, 2, 102 + 100 + 5, 192, 20, 172}};
        for (int s = 0; s < 2; s++) {
            for (int what = 0; what <= 5; what++) {
                Check.due("P16 told(" + s + ", " + what + ")", pool.told(s, what), want[s][what]);
            }
        }
        pool.storm(2, 0, 0, 0, 0, 20, 5);
        Check.due("P16 broken, but cracked ahead of it", pool.told(2, 0), 0);
        Check.due("P16 one broke", pool.told(2, 1), 1);
        Check.refused(pool, INDEX, "P16 storm -1", () -> pool.told(-1, 0));
        Check.refused(pool, INDEX, "P16 storm 3", () -> pool.told(3, 0));
        Check.refused(pool, INDEX, "P16 what -1", () -> pool.told(0, -1));
        Check.refused(pool, INDEX, "P16 what 6", () -> pool.told(0, 6));
        HailPool both = oneHouse(0, 0, 1, 1, 1, 10);
        both.storm(0, 0, 0, 0, 0, 20, 2);
        Check.due("P16 whole ahead, broken behind", both.told(0, 0), 1);
        Check.due("P16 and it broke", both.told(0, 1), 1);
    }

    // Promise 17
    private static void wouldBe() {
        // One pool a number of what is told, as an object is used for 512 calls.
        for (int what = 0; what <= 5; what++) {
            HailPool pool = twoGrowersWithPolicies();
            for (int s = 0; s < 30; s++) {
                long before = pool.digest();
                int told = pool.wouldBe(s % 7, 2 + s % 5, 1, s % 2, s % 4, 6 + s % 14, 6, what);
                Check.due("P17 wouldBe leaves the digest", pool.digest(), before);
                pool.storm(s % 7, 2 + s % 5, 1, s % 2, s % 4, 6 + s % 14, 6);
                Check.due("P17 storm " + s + ", what " + what, told, pool.told(s, what));
            }
            pool.insure(0, 0, 100000, 10);
            Check.refused(pool, STATE, "P17 no 31st storm", () -> pool.storm(0, 4, 1, 0, 5, 20, 20));
            Check.unchanged(pool, "P17 it tells of a 31st",
                    () -> pool.wouldBe(0, 4, 1, 0, 5, 20, 20, 2), 25 * 31 + 25 * 17 - pool.count(10));
        }
        HailPool pool = twoGrowersWithPolicies();
        for (int[] w : Land.WRONG_STORMS) {
            Check.refused(pool, ARGUMENT, "P17 wouldBe(" + Arrays.toString(w) + ")",
                    () -> pool.wouldBe(w[0], w[1], w[2], w[3], w[4], w[5], w[6], 0));
            Check.refused(pool, ARGUMENT, "P17 wouldBe(" + Arrays.toString(w) + ") and a wrong what",
                    () -> pool.wouldBe(w[0], w[1], w[2], w[3], w[4], w[5], w[6], 6));
        }
        Check.refused(pool, INDEX, "P17 what -1", () -> pool.wouldBe(0, 0, 0, 0, 0, 1, 1, -1));
        Check.refused(pool, INDEX, "P17 what 6", () -> pool.wouldBe(0, 0, 0, 0, 0, 1, 1, 6));
    }

    private static HailPool twoGrowersWithPolicies() {
        HailPool pool = new HailPool();
        pool.addGrower(0);
        pool.addGrower(0);
        pool.build(0, 2, 2, 5, 5, 3, 31);
        pool.build(1, 8, 2, 5, 5, 6, 17);
        pool.insure(0, 10, 700, 10);
        pool.insure(1, 0, 300, 10);
        pool.addLayer(50, 100, 70);
        pool.fund(200);
        pool.setNet(1, true);
        return pool;
    }

    // Promise 18
    private static void worst() {
        HailPool pool = new HailPool();
        pool.addGrower(0);
        Check.due("P18 no houses", pool.worst(5, 20), -1);
        pool.build(0, 4, 5, 1, 1, 1, 100);
        Check.due("P18 no policies", pool.worst(5, 20), -1);
        pool.insure(0, 0, 1000, 1);
        Check.unchanged(pool, "P18 the row of the pane", () -> pool.worst(0, 20), 5);
        pool.build(0, 5, 9, 1, 1, 1, 1000);
        Check.due("P18 odd columns are not passed", pool.worst(0, 20), 5);
        pool.build(0, 0, 15, 1, 1, 1, 100);
        Check.due("P18 of several the least row", pool.worst(0, 20), 5);
        pool.build(0, 0, 2, 1, 1, 1, 99);
        Check.due("P18 the greatest claims", pool.worst(0, 20), 5);
        Check.due("P18 too weak", pool.worst(0, 1), -1);
        pool.insure(0, 50, 1000, 1);
        Check.due("P18 within the deductible", pool.worst(0, 20), -1);
        pool.insure(0, 49, 1000, 1);
        Check.due("P18 beyond the deductible", pool.worst(0, 20), 5);
        HailPool east = oneHouse(19, 19, 1, 1, 1, 10);
        east.insure(0, 0, 1000, 1);
        Check.due("P18 column 19 and the last row, by the radius", east.worst(1, 4), 18);
        HailPool last = oneHouse(18, 19, 1, 1, 1, 10);
        last.insure(0, 0, 1000, 1);
        Check.due("P18 the last row", last.worst(0, 4), 19);
        HailPool first = oneHouse(18, 0, 1, 1, 1, 10);
        first.insure(0, 0, 1000, 1);
        Check.due("P18 the first row", first.worst(5, 20), 0);
        int[][] wrong = {{-1, 1}, {6, 1}, {0, 0}, {0, 21}, {Integer.MIN_VALUE, Integer.MAX_VALUE}};
        for (int[] w : wrong) {
            Check.refused(pool, ARGUMENT, "P18 worst(" + w[0] + ", " + w[1] + ")", () -> pool.worst(w[0], w[1]));
        }
        HailPool beyond = oneHouse(19, 7, 1, 1, 1, 10);
        beyond.insure(0, 5, 1000, 1);
        // Column 19 cracks by the middle at 18; only the one at 20, off the land, breaks it.
        Check.due("P18 steps beyond the land count", beyond.worst(1, 9), 6);
    }

    // Promise 19
    private static void advise() {
        HailPool pool = new HailPool();
        Check.due("P19 no houses", pool.advise(0, 0, 20), -1);
        pool.addGrower(0);
        pool.build(0, 0, 3, 1, 1, 1, 100);
        pool.build(0, 4, 3, 1, 1, 1, 200);
        pool.build(0, 8, 3, 1, 1, 1, 200);
        pool.build(0, 12, 9, 1, 1, 1, 1000);
        // The storm cracks each pane of the row once; behind a net 6 - 5 is not more than 1. No policy is needed.
        Check.unchanged(pool, "P19 the most is spared, the smaller number", () -> pool.advise(3, 0, 6), 1);
        pool.setNet(1, true);
        Check.unchanged(pool, "P19 one with a net is passed over", () -> pool.advise(3, 0, 6), 2);
        pool.setNet(2, true);
        Check.unchanged(pool, "P19 the last one of the row", () -> pool.advise(3, 0, 6), 0);
        pool.setNet(0, true);
        Check.unchanged(pool, "P19 all of the row have nets", () -> pool.advise(3, 0, 6), -1);
        pool.setNet(0, false);
        Check.unchanged(pool, "P19 no net helps against 20", () -> pool.advise(3, 0, 20), -1);
        Check.unchanged(pool, "P19 no damage at all", () -> pool.advise(19, 0, 6), -1);
        Check.due("P19 the nets stay", pool.house(0, 7) * 100 + pool.house(1, 7) * 10 + pool.house(2, 7), 11);
        int[][] wrong = {{-1, 0, 1}, {20, 0, 1}, {0, -1, 1}, {0, 6, 1}, {0, 0, 0}, {0, 0, 21}};
        for (int[] w : wrong) {
            Check.refused(pool, ARGUMENT, "P19 advise(" + Arrays.toString(w) + ")",
                    () -> pool.advise(w[0], w[1], w[2]));
        }
    }

    // Promise 20
    private static void loss() {
        HailPool pool = new HailPool();
        Check.dueDouble("P20 no panes", pool::loss, 0.0);
        pool.addGrower(0);
        Check.dueDouble("P20 a grower, but no panes", pool::loss, 0.0);
        pool.build(0, 0, 0, 3, 1, 1, 7);
        Check.dueDouble("P20 nothing is lost", pool::loss, 0.0);
        pool.storm(0, 0, 0, 0, 0, 20, 1);
        Check.dueDouble("P20 a crack", pool::loss, 3 / 21.0);
        pool.build(0, 10, 10, 1, 1, 1, 4);
        Check.dueDouble("P20 by all values", pool::loss, 3 / 25.0);
        pool.storm(0, 0, 1, 0, 1, 20, 9);
        pool.storm(10, 10, 0, 0, 0, 20, 2);
        Check.dueDouble("P20 all is lost", pool::loss, 1.0);
    }

    // Promise 21
    private static void digest() {
        HailPool pool = new HailPool();
        long empty = 541;
        for (int what = 0; what <= 10; what++) {
            empty *= 31;
        }
        Check.due("P21 a new pool", pool.digest(), empty);
        pool.addGrower(77);
        pool.addGrower(12345);
        pool.build(1, 2, 3, 2, 3, 4, 55);
        pool.build(0, 9, 9, 3, 1, 2, 99);
        pool.insure(1, 5, 500, 50);
        pool.addLayer(10, 20, 30);
        pool.addLayer(0, 40, 50);
        pool.endYear();
        pool.storm(2, 4, 0, 0, 1, 7, 1);
        pool.storm(9, 9, 1, 0, 0, 9, 2);
        pool.setNet(0, true);
        Check.due("P21 the digest by what is told", pool.digest(), digestByFace(pool));
        Check.due("P21 it changes nothing", pool.digest(), digestByFace(pool));
    }

    static long digestByFace(HailPool pool) {
        long d = 541;
        for (int what = 0; what <= 10; what++) {
            d = d * 31 + pool.count(what);
        }
        for (int g = 0; g < pool.count(0); g++) {
            for (int what = 0; what <= 9; what++) {
                d = d * 31 + pool.grower(g, what);
            }
        }
        for (int h = 0; h < pool.count(1); h++) {
            for (int what = 0; what <= 10; what++) {
                d = d * 31 + pool.house(h, what);
            }
            for (int y = pool.house(h, 2); y < pool.house(h, 2) + pool.house(h, 4); y++) {
                for (int x = pool.house(h, 1); x < pool.house(h, 1) + pool.house(h, 3); x++) {
                    d = d * 31 + pool.pane(x, y);
                }
            }
        }
        for (int l = 0; l < pool.count(2); l++) {
            for (int what = 0; what <= 4; what++) {
                d = d * 31 + pool.layer(l, what);
            }
        }
        for (int s = 0; s < pool.count(5); s++) {
            for (int what = 0; what <= 5; what++) {
                d = d * 31 + pool.told(s, what);
            }
        }
        return d;
    }
}
