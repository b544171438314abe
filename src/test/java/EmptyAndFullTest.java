import java.math.BigInteger;
import java.util.function.Supplier;

/** What is answered where there is nothing, and where there is as much as there may be; and up to the 512th call. */
public final class EmptyAndFullTest {
    private static final Class<IndexOutOfBoundsException> INDEX = IndexOutOfBoundsException.class;

    public static void main(String[] args) {
        newPool();
        nothingToTell();
        numbersAtFirst();
        fullPool();
        greatestSums();
        digestWraps();
        lastCalls();
        Check.finish();
    }

    // P1 "Creates a pool without growers, houses and layers."
    private static void newPool() {
        HailPool pool = new HailPool();
        Check.unchanged(pool, "P17 a storm over nothing", () -> pool.wouldBe(9, 9, 0, 0, 5, 20, 30, 3), 0);
        Check.unchanged(pool, "P18 no row", () -> pool.worst(5, 20), -1);
        Check.unchanged(pool, "P19 no house", () -> pool.advise(9, 5, 20), -1);
        Check.dueDouble("P20 nothing is lost", pool::loss, 0.0);
        Check.due("P15 no claims", pool.storm(9, 9, 0, 0, 5, 20, 30), 0);
        for (int what = 0; what <= 5; what++) {
            Check.due("P16 told(0, " + what + ") of nothing", pool.told(0, what), 0);
        }
        Check.due("P13 but it was a storm", pool.count(5), 1);
        Check.due("P14 no premiums", pool.endYear(), 0);
        Check.due("P13 but it was a year", pool.count(6), 1);
        Check.due("P13 without storms now", pool.count(5), 0);
        Check.refused(pool, INDEX, "P16 none is told", () -> pool.told(0, 0));
    }

    private static void nothingToTell() {
        // Growers without houses, with a policy and without one.
        HailPool pool = Land.grower(100);
        pool.addGrower(50);
        pool.insure(1, 0, 1000, 100);
        Check.due("P15 no claims without houses", pool.storm(0, 0, 1, 0, 5, 20, 30), 0);
        Check.due("P18 no row without houses", pool.worst(5, 20), -1);
        Check.due("P19 no house without houses", pool.advise(0, 5, 20), -1);
        Check.due("P14 no premiums without houses", pool.endYear(), 0);
        Check.due("P14 but a policy, and no claim", pool.grower(1, 4), 90);
        Check.due("P14 no policy", pool.grower(0, 4), 100);
        Check.due("P7 no values", pool.grower(1, 8), 0);
        Check.due("P7 nothing lost", pool.grower(1, 9), 0);
        // A house without a policy: there is damage, but no claim.
        pool.build(0, 0, 0, 1, 1, 1, 10);
        Check.due("P18 no row without a policy", pool.worst(5, 20), -1);
        Check.due("P19 a house without a policy", pool.advise(0, 0, 6), 0);
        Check.due("P15 no claim without a policy", Land.breakPane(pool, 0, 0), 0);
        Check.due("P16 the damage of one without a policy", pool.told(0, 2), 10);
        Check.due("P7 nothing was claimed", pool.grower(0, 5), 0);
        Check.due("P5 no limit before", pool.insure(0, 3, 44, 5), 0);
        Check.due("P18 no row, as all is broken", pool.worst(5, 20), -1);
        Check.due("P19 no house, as all is broken", pool.advise(0, 5, 20), -1);
        Check.dueDouble("P20 all is lost", pool::loss, 1.0);
    }

    // "numbered from 0 in the order of their coming", "numbered likewise", "Storms are numbered from 0"
    private static void numbersAtFirst() {
        HailPool pool = new HailPool();
        Check.due("P2 the first grower", pool.addGrower(3), 0);
        Check.due("P3 the first house", pool.build(0, 0, 0, 1, 1, 1, 1), 0);
        Check.due("P11 the first layer", pool.addLayer(7, 8, 9), 0);
        int[] grower = {3, 0, 0, 0, 100, 0, 0, 1, 1, 0};
        for (int what = 0; what <= 9; what++) {
            Check.due("P7 a new grower, what " + what, pool.grower(0, what), grower[what]);
        }
        int[] house = {0, 0, 0, 1, 1, 1, 1, 0, 0, 0, 0};
        for (int what = 0; what <= 10; what++) {
            Check.due("P8 a new house, what " + what, pool.house(0, what), house[what]);
        }
        int[] layer = {7, 8, 9, 16, 0};
        for (int what = 0; what <= 4; what++) {
            Check.due("P12 a new layer, what " + what, pool.layer(0, what), layer[what]);
        }
        int[] count = {1, 1, 1, 0, 0, 0, 0, 1, 0, 0, 0};
        for (int what = 0; what <= 10; what++) {
            Check.due("P13 count(" + what + ")", pool.count(what), count[what]);
        }
        // A pane of 1: half of it is nothing.
        Land.crackPane(pool, 0, 0);
        Check.due("P16 a crack in a pane of 1 is no damage", pool.told(0, 2), 0);
        Check.due("P16 but it is cracked", pool.told(0, 0), 1);
        Check.due("P8 and nothing is lost", pool.house(0, 10), 0);
        Land.crackPane(pool, 0, 0);
        Check.due("P16 the second storm has the number 1", pool.told(1, 2), 1);
    }

    private static void fullPool() {
        HailPool pool = Land.full();
        int[] count = {6, 12, 6};
        for (int what = 0; what <= 2; what++) {
            Check.due("P13 count(" + what + ") of a full pool", pool.count(what), count[what]);
        }
        Check.due("P13 storms of a full year", pool.count(5), 30);
        Check.due("P13 all panes", pool.count(7), 360);
        Check.due("P21 the same calls, the same digest", pool.digest(), Land.full().digest());
        Check.due("P21 the digest of a full pool", pool.digest(), digestByFace(Land::full));
        pool.endYear();
        Check.due("P21 the digest of its next year", pool.digest(), digestByFace(EmptyAndFullTest::fullNextYear));
    }

    private static HailPool fullNextYear() {
        HailPool pool = Land.full();
        pool.endYear();
        return pool;
    }

    /** A pool with all its panes takes more than 512 calls to read: so it is made anew again and again. */
    private static final class Reader {
        private final Supplier<HailPool> maker;
        private HailPool pool;
        private int reads;

        Reader(Supplier<HailPool> maker) {
            this.maker = maker;
        }

        HailPool pool() {
            if (reads % 400 == 0) {
                pool = maker.get();
            }
            reads++;
            return pool;
        }
    }

    private static long digestByFace(Supplier<HailPool> maker) {
        Reader reader = new Reader(maker);
        int[] many = new int[11];
        long d = 541;
        for (int what = 0; what <= 10; what++) {
            many[what] = reader.pool().count(what);
            d = d * 31 + many[what];
        }
        for (int i = 0; i < many[0] * 10; i++) {
            d = d * 31 + reader.pool().grower(i / 10, i % 10);
        }
        for (int h = 0; h < many[1]; h++) {
            int[] house = new int[11];
            for (int what = 0; what <= 10; what++) {
                house[what] = reader.pool().house(h, what);
                d = d * 31 + house[what];
            }
            for (int i = 0; i < house[3] * house[4]; i++) {
                d = d * 31 + reader.pool().pane(house[1] + i % house[3], house[2] + i / house[3]);
            }
        }
        for (int i = 0; i < many[2] * 5; i++) {
            d = d * 31 + reader.pool().layer(i / 5, i % 5);
        }
        for (int i = 0; i < many[5] * 6; i++) {
            d = d * 31 + reader.pool().told(i / 6, i % 6);
        }
        return d;
    }

    // All growers, houses and layers at their greatest numbers.
    private static void greatestSums() {
        HailPool pool = new HailPool();
        for (int g = 0; g < 6; g++) {
            pool.addGrower(1000000);
            pool.insure(g, 0, 100000, 100);
            pool.addLayer(0, 100000, 100);
        }
        for (int h = 0; h < 12; h++) {
            pool.build(h % 6, 5 * (h % 4), 7 * (h / 4), 5, 6, 9, 1000);
        }
        int claims = 0;
        for (int[] at : new int[][] {{5, 5}, {14, 5}, {5, 14}, {14, 14}}) {
            int would = pool.wouldBe(at[0], at[1], 0, 0, 5, 20, 30, 3);
            int got = pool.storm(at[0], at[1], 0, 0, 5, 20, 30);
            Check.due("P15 as it would be", got, would);
            claims += got;
        }
        Check.due("P15 all claims", claims, 360000);
        Check.due("P13 all are broken", pool.count(9), 360);
        Check.due("P13 all is lost", pool.count(10), 360000);
        Check.due("P13 all is paid", pool.count(4), 0);
        Check.dueDouble("P20 all is lost", pool::loss, 1.0);
        int paid = 0;
        for (int l = 0; l < 6; l++) {
            Check.due("P12 no more than it has", pool.layer(l, 3) + pool.layer(l, 4), 200000);
            paid += pool.layer(l, 4);
        }
        Check.due("P13 what the layers paid less the claims", pool.count(3), paid - 360000);
        for (int g = 0; g < 6; g++) {
            Check.due("P7 claimed", pool.grower(g, 5), 60000);
            Check.due("P7 coins", pool.grower(g, 0), 1060000);
            Check.due("P7 values", pool.grower(g, 8), 60000);
            Check.due("P7 lost", pool.grower(g, 9), 60000);
        }
        Check.due("P14 premiums", pool.endYear(), 6 * 6000);
        Check.due("P14 premiums at the factor 120", pool.endYear(), 6 * 7200);
        for (int h = 0; h < 12; h++) {
            Check.due("P6 all of a house", pool.mend(h), 30000);
        }
        Check.due("P13 nothing is lost", pool.count(8) + pool.count(9) + pool.count(10), 0);
    }

    // P21 "which wraps around as a 64-bit integer": the same with numbers that have no end, cut behind it.
    private static void digestWraps() {
        BigInteger d = BigInteger.valueOf(541);
        BigInteger by = BigInteger.valueOf(31);
        for (int what = 0; what <= 10; what++) {
            d = d.multiply(by);
        }
        Check.due("P21 a new pool's is beyond 64 bits", d.bitLength() > 63, true);
        Check.due("P21 a new pool's digest", new HailPool().digest(), d.longValue());
        HailPool pool = new HailPool();
        pool.fund(12);
        pool.addLayer(3, 4, 5);
        int[] told = {0, 0, 1, 12, 0, 0, 0, 0, 0, 0, 0, 3, 4, 5, 8, 0};
        d = BigInteger.valueOf(541);
        for (int x : told) {
            d = d.multiply(by).add(BigInteger.valueOf(x));
        }
        Check.due("P21 coins and a layer", pool.digest(), d.longValue());
        pool.endYear();
        pool.storm(0, 0, 0, 0, 0, 1, 1);
        told[5] = 1;
        told[6] = 1;
        d = BigInteger.valueOf(541);
        for (int x : told) {
            d = d.multiply(by).add(BigInteger.valueOf(x));
        }
        Check.due("P21 and a storm, which told nothing", pool.digest(), d.multiply(by.pow(6)).longValue());
    }

    // "An object is used for at most 512 calls": the last of them is as good as the first.
    private static void lastCalls() {
        HailPool pool = Land.full();
        // 6 times 3 calls, 12 houses, the fund, and 30 storms are made.
        int used = 61;
        long digest = pool.digest();
        int worst = pool.worst(3, 15);
        int advise = pool.advise(9, 3, 15);
        used += 3;
        Check.due("P18 there is a worst row", worst >= 0, true);
        Check.due("P19 there is a house to advise", advise >= 0, true);
        for (; used + 3 <= 512; used += 3) {
            Check.due("P18 call " + used, pool.worst(3, 15), worst);
            Check.due("P19 call " + used, pool.advise(9, 3, 15), advise);
            Check.due("P21 call " + used, pool.digest(), digest);
        }
        HailPool years = Land.pane(1000000, 0, 0, 1, 1000);
        years.insure(0, 0, 100000, 1);
        for (int call = 4; call <= 511; call++) {
            Check.due("P14 a year's premium", years.endYear(), call == 4 ? 1 : 0);
        }
        Check.due("P13 the 512th call: years", years.count(6), 508);
    }
}
