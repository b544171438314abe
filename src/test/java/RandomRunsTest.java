import java.util.Arrays;
import java.util.Random;
import java.util.function.LongSupplier;

/**
 * Long runs of calls, the same ones each time, on HailPool and on Model: each answer and each digest must agree. Digests
 * and losses count as calls too, as what an object answers after its 512th call is free.
 */
public final class RandomRunsTest {
    private static final int RUNS = 300;
    private static final int MOST_CALLS = 512;

    private final Random random;
    private final HailPool pool = new HailPool();
    private final Model model = new Model();
    private final int wrongness;
    private final boolean isPoor;
    // Some runs look at the digest seldom, so that they go farther with their calls.
    private final int digestEvery;
    private int used;
    private int faults;

    private RandomRunsTest(int seed) {
        random = new Random(seed);
        digestEvery = seed % 4 < 2 ? 1 : 8;
        wrongness = seed % 3 == 0 ? 12 : 200;
        // A poor pool can't pay all, so that the order of the payments and the debts show.
        isPoor = seed % 2 == 0;
    }

    public static void main(String[] args) {
        for (int seed = 1; seed <= RUNS; seed++) {
            new RandomRunsTest(seed).run(seed);
        }
        Check.finish();
    }

    private void run(int seed) {
        // A round takes three calls at most.
        for (int call = 0; used <= MOST_CALLS - 3 && faults == 0; call++) {
            int op = call < 12 ? new int[] {0, 1, 3, 8, 9, 1}[call % 6] : random.nextInt(24);
            int[] a = numbers(op, call);
            String text = "run " + seed + ", call " + call + ", op " + op + " " + Arrays.toString(a);
            String want = answer(() -> ofModel(op, a), false);
            compare(text, answer(() -> ofPool(op, a), true), want);
            used++;
            // What throws changes nothing: so there the digest is always looked at.
            if (call % digestEvery == 0 || want.contains("Exception")) {
                compare(text + ": digest", String.valueOf(pool.digest()), String.valueOf(model.digest()));
                used++;
            }
            if (call % 8 == 0) {
                compare(text + ": loss", String.valueOf(pool.loss()), String.valueOf(model.loss()));
                used++;
            }
        }
    }

    private void compare(String text, String got, String want) {
        if (!got.equals(want)) {
            faults++;
            Check.fault(text + " answered " + got + ", the model " + want);
        }
    }

    private static String answer(LongSupplier call, boolean isPool) {
        try {
            return String.valueOf(call.getAsLong());
        } catch (RuntimeException e) {
            String who = isPool && Check.isOfMachine(e) ? "the machine's " : "";
            return who + e.getClass().getName();
        }
    }

    /** A number from least to most, now and then one just or far beyond. */
    private int from(int least, int most) {
        if (random.nextInt(wrongness) == 0) {
            int[] beyond = {least - 1, most + 1, Integer.MIN_VALUE, Integer.MAX_VALUE, -1, 0};
            return beyond[random.nextInt(beyond.length)];
        }
        int kind = random.nextInt(12);
        return kind == 0 ? least : kind == 1 ? most : least + random.nextInt(most - least + 1);
    }

    private int small(int least, int most) {
        return random.nextBoolean() ? from(least, most) : from(least, Math.min(most, least + 300));
    }

    private int growerNumber() {
        return from(0, Math.max(0, model.growers.size() - 1));
    }

    private int houseNumber() {
        return from(0, Math.max(0, model.houses.size() - 1));
    }

    private int[] numbers(int op, int call) {
        switch (op) {
            case 0:
                return new int[] {random.nextBoolean() ? from(0, 1000000) : from(0, 3000)};
            case 1:
                return new int[] {growerNumber(), from(0, 17), from(0, 17), from(1, 6), from(1, 6), from(1, 9),
                    small(1, 1000)};
            case 2:
                return new int[] {houseNumber(), random.nextInt(2)};
            case 3:
                return new int[] {growerNumber(), small(0, 10000), random.nextInt(3) == 0 ? small(1, 100000)
                    : from(500, 5000), from(1, 100)};
            case 4:
            case 20:
            case 21:
                return new int[] {houseNumber()};
            case 5:
                return new int[] {growerNumber(), from(0, 9)};
            case 6:
                return new int[] {houseNumber(), from(0, 10)};
            case 7:
                return new int[] {from(0, 19), from(0, 19)};
            case 8:
                return new int[] {isPoor ? from(1, 400) : small(1, 1000000)};
            case 9:
                return new int[] {small(0, 100000), small(1, 100000), from(1, 100)};
            case 10:
                return new int[] {from(0, 5), from(0, 4)};
            case 11:
                return new int[] {from(0, 10)};
            case 12:
                return new int[0];
            case 14:
                return new int[] {from(0, Math.max(0, model.storms.size() - 1)), from(0, 5)};
            case 16:
                return new int[] {from(0, 5), from(1, 20)};
            case 17:
                return new int[] {from(0, 19), from(0, 5), from(1, 20)};
            default:
                return stormNumbers();
        }
    }

    private int[] stormNumbers() {
        boolean isFar = random.nextInt(4) == 0;
        return new int[] {isFar ? from(-20, 39) : from(0, 19), isFar ? from(-20, 39) : from(0, 19), from(-3, 3),
            from(-3, 3), from(0, 5), from(1, 20), from(1, 30), from(0, 5)};
    }

    private long ofPool(int op, int[] a) {
        switch (op) {
            case 0: return pool.addGrower(a[0]);
            case 1: return pool.build(a[0], a[1], a[2], a[3], a[4], a[5], a[6]);
            case 2: return pool.setNet(a[0], a[1] == 1) ? 1 : 0;
            case 3: return pool.insure(a[0], a[1], a[2], a[3]);
            case 4: case 20: case 21: return pool.mend(a[0]);
            case 5: return pool.grower(a[0], a[1]);
            case 6: return pool.house(a[0], a[1]);
            case 7: return pool.pane(a[0], a[1]);
            case 8: return pool.fund(a[0]);
            case 9: return pool.addLayer(a[0], a[1], a[2]);
            case 10: return pool.layer(a[0], a[1]);
            case 11: return pool.count(a[0]);
            case 12: return pool.endYear();
            case 14: return pool.told(a[0], a[1]);
            case 15: return pool.wouldBe(a[0], a[1], a[2], a[3], a[4], a[5], a[6], a[7]);
            case 16: return pool.worst(a[0], a[1]);
            case 17: return pool.advise(a[0], a[1], a[2]);
            default: return pool.storm(a[0], a[1], a[2], a[3], a[4], a[5], a[6]);
        }
    }

    private long ofModel(int op, int[] a) {
        switch (op) {
            case 0: return model.addGrower(a[0]);
            case 1: return model.build(a[0], a[1], a[2], a[3], a[4], a[5], a[6]);
            case 2: return model.setNet(a[0], a[1] == 1);
            case 3: return model.insure(a[0], a[1], a[2], a[3]);
            case 4: case 20: case 21: return model.mend(a[0]);
            case 5: return model.grower(a[0], a[1]);
            case 6: return model.house(a[0], a[1]);
            case 7: return model.pane(a[0], a[1]);
            case 8: return model.fund(a[0]);
            case 9: return model.addLayer(a[0], a[1], a[2]);
            case 10: return model.layer(a[0], a[1]);
            case 11: return model.count(a[0]);
            case 12: return model.endYear();
            case 14: return model.told(a[0], a[1]);
            case 15: return model.wouldBe(a[0], a[1], a[2], a[3], a[4], a[5], a[6], a[7]);
            case 16: return model.worst(a[0], a[1]);
            case 17: return model.advise(a[0], a[1], a[2]);
            default: return model.storm(a[0], a[1], a[2], a[3], a[4], a[5], a[6]);
        }
    }
}
