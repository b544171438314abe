import java.util.Arrays;
import java.util.function.Supplier;

/**
 * Each number of each call on both sides of its bounds: the least and the greatest are allowed, what is just or far
 * beyond is refused by the exception that the document names, and changes nothing.
 */
public final class BoundsTest {
    private static final Class<IndexOutOfBoundsException> INDEX = IndexOutOfBoundsException.class;
    private static final Class<IllegalArgumentException> ARGUMENT = IllegalArgumentException.class;

    private static final int LEAST = Integer.MIN_VALUE;
    private static final int MOST = Integer.MAX_VALUE;

    private interface Call {
        long on(HailPool pool, int[] a);
    }

    private static final Call BUILD = (pool, a) -> pool.build(a[0], a[1], a[2], a[3], a[4], a[5], a[6]);
    private static final Call INSURE = (pool, a) -> pool.insure(a[0], a[1], a[2], a[3]);
    private static final Call STORM = (pool, a) -> pool.storm(a[0], a[1], a[2], a[3], a[4], a[5], a[6]);
    private static final Call WOULD_BE = (pool, a) -> pool.wouldBe(a[0], a[1], a[2], a[3], a[4], a[5], a[6], a[7]);
    private static final Call SET_NET = (pool, a) -> pool.setNet(a[0], a[1] == 1) ? 1 : 0;

    public static void main(String[] args) {
        growersAndHouses();
        onTheLand();
        thePool();
        storms();
        whatIsThere();
        whatIsTold();
        Check.finish();
    }

    private static void growersAndHouses() {
        // "coins is not 0 to 1000000"
        bounds("P2 addGrower", HailPool::new, ARGUMENT, (pool, a) -> pool.addGrower(a[0]), new int[] {5}, 0, 0, 1000000);
        // "wide or deep is not 1 to 6"
        Supplier<HailPool> one = () -> Land.grower(1000);
        int[] house = {0, 3, 4, 2, 2, 5, 100};
        bounds("P3 build, wide", one, ARGUMENT, BUILD, house, 3, 1, 6);
        bounds("P3 build, deep", one, ARGUMENT, BUILD, house, 4, 1, 6);
        // "strength is not 1 to 9, or value is not 1 to 1000"
        bounds("P3 build, strength", one, ARGUMENT, BUILD, house, 5, 1, 9);
        bounds("P3 build, value", one, ARGUMENT, BUILD, house, 6, 1, 1000);
        // "deductible is not 0 to 10000, limit is not 1 to 100000, or rate is not 1 to 100"
        int[] policy = {0, 10, 500, 20};
        bounds("P5 insure, deductible", one, ARGUMENT, INSURE, policy, 1, 0, 10000);
        bounds("P5 insure, limit", one, ARGUMENT, INSURE, policy, 2, 1, 100000);
        bounds("P5 insure, rate", one, ARGUMENT, INSURE, policy, 3, 1, 100);
        // "x or y is not 0 to 19"
        bounds("P9 pane, x", Land::some, INDEX, (pool, a) -> pool.pane(a[0], a[1]), new int[] {3, 3}, 0, 0, 19);
        bounds("P9 pane, y", Land::some, INDEX, (pool, a) -> pool.pane(a[0], a[1]), new int[] {3, 3}, 1, 0, 19);
    }

    // "it is not all on the land": for each size, the last column and row where a house of it still stands on it.
    private static void onTheLand() {
        Supplier<HailPool> one = () -> Land.grower(1000);
        for (int size = 1; size <= 6; size++) {
            int[] wide = {0, 3, 4, size, 1, 5, 100};
            bounds("P3 build, x", one, ARGUMENT, BUILD, wide, 1, 0, 20 - size);
            int[] deep = {0, 3, 4, 1, size, 5, 100};
            bounds("P3 build, y", one, ARGUMENT, BUILD, deep, 2, 0, 20 - size);
            HailPool pool = Land.grower(0);
            pool.build(0, 20 - size, 20 - size, size, size, 1, 1);
            Check.due("P3 the far corner's pane", pool.pane(19, 19), 0);
            Check.due("P3 its first column", pool.pane(20 - size, 19), 0);
            Check.due("P3 its first row", pool.pane(19, 20 - size), 0);
            Check.due("P3 beside its first column", pool.pane(19 - size, 19), -1);
            Check.due("P3 above its first row", pool.pane(19, 19 - size), -1);
            Check.due("P3 its panes", pool.count(7), size * size);
        }
    }

    private static void thePool() {
        // "coins is not 1 to 1000000"
        bounds("P10 fund", HailPool::new, ARGUMENT, (pool, a) -> pool.fund(a[0]), new int[] {5}, 0, 1, 1000000);
        // "attachment is not 0 to 100000, limit is not 1 to 100000, or share is not 1 to 100"
        Call addLayer = (pool, a) -> pool.addLayer(a[0], a[1], a[2]);
        int[] layer = {10, 20, 30};
        bounds("P11 addLayer, attachment", HailPool::new, ARGUMENT, addLayer, layer, 0, 0, 100000);
        bounds("P11 addLayer, limit", HailPool::new, ARGUMENT, addLayer, layer, 1, 1, 100000);
        bounds("P11 addLayer, share", HailPool::new, ARGUMENT, addLayer, layer, 2, 1, 100);
    }

    // "x or y is not -20 to 39, dx or dy is not -3 to 3, radius is not 0 to 5, force is not 1 to 20, or steps is not 1 to 30"
    private static void storms() {
        int[][] bounds = {{-20, 39}, {-20, 39}, {-3, 3}, {-3, 3}, {0, 5}, {1, 20}, {1, 30}};
        int[] storm = {3, 3, 1, 1, 1, 10, 5};
        int[] wouldBe = {3, 3, 1, 1, 1, 10, 5, 2};
        for (int i = 0; i < 7; i++) {
            bounds("P15 storm", Land::some, ARGUMENT, STORM, storm, i, bounds[i][0], bounds[i][1]);
            bounds("P17 wouldBe", Land::some, ARGUMENT, WOULD_BE, wouldBe, i, bounds[i][0], bounds[i][1]);
        }
        // "radius is not 0 to 5, or force is not 1 to 20", "y is not 0 to 19"
        Call worst = (pool, a) -> pool.worst(a[0], a[1]);
        bounds("P18 worst, radius", Land::some, ARGUMENT, worst, new int[] {2, 8}, 0, 0, 5);
        bounds("P18 worst, force", Land::some, ARGUMENT, worst, new int[] {2, 8}, 1, 1, 20);
        Call advise = (pool, a) -> pool.advise(a[0], a[1], a[2]);
        bounds("P19 advise, y", Land::some, ARGUMENT, advise, new int[] {5, 2, 8}, 0, 0, 19);
        bounds("P19 advise, radius", Land::some, ARGUMENT, advise, new int[] {5, 2, 8}, 1, 0, 5);
        bounds("P19 advise, force", Land::some, ARGUMENT, advise, new int[] {5, 2, 8}, 2, 1, 20);
    }

    // "there is no such grower", "... house", "... layer", "... storm": with none, with some, and with the most of them.
    private static void whatIsThere() {
        there(HailPool::new, 0, 0, 0, 0);
        there(Land::some, 2, 3, 2, 2);
        there(Land::full, 6, 12, 6, 30);
        // Without a grower nothing can be built, and a grower without a house has none to mend.
        there(() -> Land.grower(7), 1, 0, 0, 0);
        // A new year has no storms.
        there(BoundsTest::someNextYear, 2, 3, 2, 0);
    }

    private static HailPool someNextYear() {
        HailPool pool = Land.some();
        pool.endYear();
        return pool;
    }

    private static void there(Supplier<HailPool> fresh, int growers, int houses, int layers, int storms) {
        bounds("P3 build, grower", fresh, INDEX, growers, BUILD, new int[] {0, 18, 18, 0, 1, 1, 1}, false);
        bounds("P5 insure, grower", fresh, INDEX, growers, INSURE, new int[] {0, 0, 1, 1}, true);
        bounds("P7 grower", fresh, INDEX, growers, (pool, a) -> pool.grower(a[0], a[1]), new int[] {0, 0}, true);
        bounds("P4 setNet", fresh, INDEX, houses, SET_NET, new int[] {0, 1}, true);
        bounds("P4 setNet", fresh, INDEX, houses, SET_NET, new int[] {0, 0}, true);
        bounds("P6 mend", fresh, INDEX, houses, (pool, a) -> pool.mend(a[0]), new int[] {0}, false);
        bounds("P8 house", fresh, INDEX, houses, (pool, a) -> pool.house(a[0], a[1]), new int[] {0, 0}, true);
        bounds("P12 layer", fresh, INDEX, layers, (pool, a) -> pool.layer(a[0], a[1]), new int[] {0, 0}, true);
        bounds("P16 told", fresh, INDEX, storms, (pool, a) -> pool.told(a[0], a[1]), new int[] {0, 0}, true);
    }

    // "what is not 0 to 9", "0 to 10", "0 to 4", "0 to 10", "0 to 5"
    private static void whatIsTold() {
        int[] two = {1, 0};
        bounds("P7 grower, what", Land::some, INDEX, (pool, a) -> pool.grower(a[0], a[1]), two, 1, 0, 9);
        bounds("P8 house, what", Land::some, INDEX, (pool, a) -> pool.house(a[0], a[1]), two, 1, 0, 10);
        bounds("P12 layer, what", Land::some, INDEX, (pool, a) -> pool.layer(a[0], a[1]), two, 1, 0, 4);
        bounds("P13 count", Land::some, INDEX, (pool, a) -> pool.count(a[0]), new int[] {0}, 0, 0, 10);
        bounds("P13 count of a new pool", HailPool::new, INDEX, (pool, a) -> pool.count(a[0]), new int[] {0}, 0, 0, 10);
        bounds("P16 told, what", Land::some, INDEX, (pool, a) -> pool.told(a[0], a[1]), two, 1, 0, 5);
        int[] wouldBe = {3, 3, 1, 1, 1, 10, 5, 2};
        bounds("P17 wouldBe, what", Land::some, INDEX, WOULD_BE, wouldBe, 7, 0, 5);
        bounds("P17 wouldBe of a new pool, what", HailPool::new, INDEX, WOULD_BE, wouldBe, 7, 0, 5);
    }

    /** The number at i has these bounds; the others are good. */
    private static void bounds(String name, Supplier<HailPool> fresh, Class<? extends RuntimeException> due, Call call,
            int[] good, int i, int least, int most) {
        for (int number : new int[] {least - 1, most + 1, LEAST, MOST, least - 1000, most + 1000}) {
            refused(name, fresh.get(), due, call, with(good, i, number));
        }
        for (int number : new int[] {least, most}) {
            allowed(name, fresh.get(), call, with(good, i, number));
        }
    }

    /** The first number is one of so many; with none of them every number is refused. */
    private static void bounds(String name, Supplier<HailPool> fresh, Class<? extends RuntimeException> due, int many,
            Call call, int[] good, boolean isAlwaysAllowed) {
        for (int number : new int[] {-1, many, many + 1, LEAST, MOST}) {
            refused(name, fresh.get(), due, call, with(good, 0, number));
        }
        for (int number = 0; number < many && isAlwaysAllowed; number++) {
            allowed(name, fresh.get(), call, with(good, 0, number));
        }
    }

    private static int[] with(int[] good, int i, int number) {
        int[] a = good.clone();
        a[i] = number;
        return a;
    }

    private static void refused(String name, HailPool pool, Class<? extends RuntimeException> due, Call call, int[] a) {
        Check.refused(pool, due, name + " " + Arrays.toString(a), () -> call.on(pool, a));
    }

    private static void allowed(String name, HailPool pool, Call call, int[] a) {
        Check.allowed(name + " " + Arrays.toString(a), () -> call.on(pool, a));
    }
}
