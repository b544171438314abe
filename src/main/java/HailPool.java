import java.util.ArrayList;
import java.util.List;

/**
 * A pool that insures glasshouses against hail.
 *
 * <p>A storm is first tried in a {@link Trial} beside the state, and only storm() takes the trial over; so what
 * wouldBe(), worst() and advise() tell is reckoned just as what storm() does.
 */
public final class HailPool {
    private static final int SIDE = 20;
    private static final int MOST_GROWERS = 6;
    private static final int MOST_HOUSES = 12;
    private static final int MOST_LAYERS = 6;
    private static final int MOST_STORMS = 30;
    private static final int MOST_POOL_COINS = 100000000;
    private static final int MOST_COINS_AT_ONCE = 1000000;
    private static final int MOST_LIMIT = 100000;

    private static final int NO_PANE = -1;
    private static final int WHOLE = 0;
    private static final int CRACKED = 1;
    private static final int BROKEN = 2;

    private static final int NET_HOLDS = 5;
    private static final int NONE = -1;

    private static final int GROWER_TELLS = 10;
    private static final int HOUSE_TELLS = 11;
    private static final int LAYER_TELLS = 5;
    private static final int COUNT_TELLS = 11;
    private static final int STORM_TELLS = 6;

    private static final int TOLD_CRACKED = 0;
    private static final int TOLD_BROKEN = 1;
    private static final int TOLD_DAMAGE = 2;
    private static final int TOLD_CLAIMS = 3;
    private static final int TOLD_LAYERS_PAID = 4;
    private static final int TOLD_UNPAID = 5;

    private final List<Grower> growers = new ArrayList<>();
    private final List<House> houses = new ArrayList<>();
    private final List<Layer> layers = new ArrayList<>();
    private final int[] panes = new int[SIDE * SIDE];
    private final int[][] reports = new int[MOST_STORMS][STORM_TELLS];
    private final Trial trial = new Trial();
    private int poolCoins;
    private int stormCount;
    private int yearCount;

    private static final class Grower {
        int coins;
        boolean isInsured;
        int deductible;
        int limit;
        int rate;
        int factor = 100;
        int claimed;
        int owed;

        Grower(int coins) {
            this.coins = coins;
        }

        int claimFor(int damage) {
            if (!isInsured) {
                return 0;
            }
            // A limit set anew may be below what was claimed already.
            return Math.max(0, Math.min(damage - deductible, limit - claimed));
        }

        int premiumFor(int values) {
            if (!isInsured) {
                return 0;
            }
            return Math.min(values * rate / 1000 * factor / 100, coins);
        }

        void changeFactor() {
            if (!isInsured) {
                return;
            }
            factor = claimed > 0 ? Math.min(200, factor + 20) : Math.max(50, factor - 10);
        }
    }

    private static final class House {
        final int owner;
        final int x;
        final int y;
        final int wide;
        final int deep;
        final int strength;
        final int value;
        boolean hasNet;

        House(int owner, int x, int y, int wide, int deep, int strength, int value) {
            this.owner = owner;
            this.x = x;
            this.y = y;
            this.wide = wide;
            this.deep = deep;
            this.strength = strength;
            this.value = value;
        }

        int paneCount() {
            return wide * deep;
        }

        int values() {
            return wide * deep * value;
        }

        int lostByCrack() {
            return value / 2;
        }

        boolean overlaps(int otherX, int otherY, int otherWide, int otherDeep) {
            return x < otherX + otherWide && otherX < x + wide && y < otherY + otherDeep && otherY < y + deep;
        }
    }

    private static final class Layer {
        final int attachment;
        final int limit;
        final int share;
        int left;
        int paid;

        Layer(int attachment, int limit, int share) {
            this.attachment = attachment;
            this.limit = limit;
            this.share = share;
            this.left = 2 * limit;
        }

        int payFor(int claims) {
            int beyond = Math.max(0, claims - attachment);
            return Math.min(Math.min(beyond, limit) * share / 100, left);
        }
    }

    private static final class Storm {
        final int x;
        // Not final, so that worst() can try every row with one object.
        int y;
        final int dx;
        final int dy;
        final int radius;
        final int force;
        final int steps;

        Storm(int x, int y, int dx, int dy, int radius, int force, int steps) {
            this.x = x;
            this.y = y;
            this.dx = dx;
            this.dy = dy;
            this.radius = radius;
            this.force = force;
            this.steps = steps;
        }

        boolean isAllowed() {
            return isIn(x, -20, 39) && isIn(y, -20, 39) && isIn(dx, -3, 3) && isIn(dy, -3, 3)
                    && isIn(radius, 0, 5) && isIn(force, 1, 20) && isIn(steps, 1, 30);
        }
    }

    /** What a storm would do. Its rows are made once and used again for every storm. */
    private static final class Trial {
        final int[] panes = new int[SIDE * SIDE];
        final int[] damages = new int[MOST_GROWERS];
        final int[] claims = new int[MOST_GROWERS];
        final int[] payments = new int[MOST_GROWERS];
        final int[] layerPayments = new int[MOST_LAYERS];
        final int[] report = new int[STORM_TELLS];

        void begin(int[] panesNow) {
            System.arraycopy(panesNow, 0, panes, 0, SIDE * SIDE);
            for (int g = 0; g < MOST_GROWERS; g++) {
                damages[g] = 0;
            }
            for (int what = 0; what < STORM_TELLS; what++) {
                report[what] = 0;
            }
        }

        void hitPane(House house, int cell, int hail) {
            if (panes[cell] == WHOLE && hail > house.strength) {
                panes[cell] = CRACKED;
                report[TOLD_CRACKED]++;
                addDamage(house.owner, house.lostByCrack());
            } else if (panes[cell] == CRACKED && 2 * hail > house.strength) {
                panes[cell] = BROKEN;
                report[TOLD_BROKEN]++;
                addDamage(house.owner, house.value - house.lostByCrack());
            }
        }

        private void addDamage(int owner, int lost) {
            damages[owner] += lost;
            report[TOLD_DAMAGE] += lost;
        }
    }

    public HailPool() {
        for (int cell = 0; cell < SIDE * SIDE; cell++) {
            panes[cell] = NO_PANE;
        }
    }

    // ---- growers and houses

    public int addGrower(int coins) throws IllegalArgumentException, IllegalStateException {
        if (!isIn(coins, 0, MOST_COINS_AT_ONCE)) {
            throw new IllegalArgumentException("coins is not 0 to 1000000");
        }
        if (growers.size() >= MOST_GROWERS) {
            throw new IllegalStateException("there are 6 growers");
        }
        growers.add(new Grower(coins));
        return growers.size() - 1;
    }

    public int build(int grower, int x, int y, int wide, int deep, int strength, int value)
            throws IndexOutOfBoundsException, IllegalArgumentException, IllegalStateException {
        checkGrower(grower);
        if (!isIn(wide, 1, 6) || !isIn(deep, 1, 6)) {
            throw new IllegalArgumentException("wide or deep is not 1 to 6");
        }
        if (!isIn(x, 0, SIDE - wide) || !isIn(y, 0, SIDE - deep)) {
            throw new IllegalArgumentException("the house is not all on the land");
        }
        if (!isIn(strength, 1, 9)) {
            throw new IllegalArgumentException("strength is not 1 to 9");
        }
        if (!isIn(value, 1, 1000)) {
            throw new IllegalArgumentException("value is not 1 to 1000");
        }
        if (isBuiltOn(x, y, wide, deep)) {
            throw new IllegalStateException("the house overlaps another one");
        }
        if (houses.size() >= MOST_HOUSES) {
            throw new IllegalStateException("there are 12 houses");
        }
        House house = new House(grower, x, y, wide, deep, strength, value);
        houses.add(house);
        makeWhole(house);
        return houses.size() - 1;
    }

    public boolean setNet(int house, boolean isSet) throws IndexOutOfBoundsException {
        checkHouse(house);
        House netted = houses.get(house);
        boolean hadNet = netted.hasNet;
        netted.hasNet = isSet;
        return hadNet;
    }

    public int insure(int grower, int deductible, int limit, int rate)
            throws IndexOutOfBoundsException, IllegalArgumentException {
        checkGrower(grower);
        if (!isIn(deductible, 0, 10000)) {
            throw new IllegalArgumentException("deductible is not 0 to 10000");
        }
        if (!isIn(limit, 1, MOST_LIMIT)) {
            throw new IllegalArgumentException("limit is not 1 to 100000");
        }
        if (!isIn(rate, 1, 100)) {
            throw new IllegalArgumentException("rate is not 1 to 100");
        }
        Grower insured = growers.get(grower);
        int limitBefore = insured.limit;
        insured.isInsured = true;
        insured.deductible = deductible;
        insured.limit = limit;
        insured.rate = rate;
        return limitBefore;
    }

    public int mend(int house) throws IndexOutOfBoundsException, IllegalStateException {
        checkHouse(house);
        House mended = houses.get(house);
        Grower payer = growers.get(mended.owner);
        int price = lostOfHouse(mended);
        if (payer.coins < price) {
            throw new IllegalStateException("the grower does not have the coins");
        }
        payer.coins -= price;
        makeWhole(mended);
        return price;
    }

    public int grower(int grower, int what) throws IndexOutOfBoundsException {
        checkGrower(grower);
        checkWhat(what, GROWER_TELLS);
        return tellGrower(grower, what);
    }

    public int house(int house, int what) throws IndexOutOfBoundsException {
        checkHouse(house);
        checkWhat(what, HOUSE_TELLS);
        return tellHouse(houses.get(house), what);
    }

    public int pane(int x, int y) throws IndexOutOfBoundsException {
        if (!isIn(x, 0, SIDE - 1) || !isIn(y, 0, SIDE - 1)) {
            throw new IndexOutOfBoundsException("x or y is not 0 to 19");
        }
        return panes[cellAt(x, y)];
    }

    // ---- the pool

    public int fund(int coins) throws IllegalArgumentException, IllegalStateException {
        if (!isIn(coins, 1, MOST_COINS_AT_ONCE)) {
            throw new IllegalArgumentException("coins is not 1 to 1000000");
        }
        if (poolCoins > MOST_POOL_COINS - coins) {
            throw new IllegalStateException("the pool would have more than 100000000");
        }
        poolCoins += coins;
        return poolCoins;
    }

    public int addLayer(int attachment, int limit, int share)
            throws IllegalArgumentException, IllegalStateException {
        if (!isIn(attachment, 0, 100000)) {
            throw new IllegalArgumentException("attachment is not 0 to 100000");
        }
        if (!isIn(limit, 1, MOST_LIMIT)) {
            throw new IllegalArgumentException("limit is not 1 to 100000");
        }
        if (!isIn(share, 1, 100)) {
            throw new IllegalArgumentException("share is not 1 to 100");
        }
        if (layers.size() >= MOST_LAYERS) {
            throw new IllegalStateException("there are 6 layers");
        }
        layers.add(new Layer(attachment, limit, share));
        return layers.size() - 1;
    }

    public int layer(int layer, int what) throws IndexOutOfBoundsException {
        if (!isIn(layer, 0, layers.size() - 1)) {
            throw new IndexOutOfBoundsException("there is no such layer");
        }
        checkWhat(what, LAYER_TELLS);
        return tellLayer(layers.get(layer), what);
    }

    public int count(int what) throws IndexOutOfBoundsException {
        checkWhat(what, COUNT_TELLS);
        return tellCount(what);
    }

    public int endYear() {
        int premiums = 0;
        for (int g = 0; g < growers.size(); g++) {
            premiums += takePremium(g);
        }
        payDebts();
        beginYear();
        yearCount++;
        return premiums;
    }

    // ---- storms

    public int storm(int x, int y, int dx, int dy, int radius, int force, int steps)
            throws IllegalArgumentException, IllegalStateException {
        Storm storm = new Storm(x, y, dx, dy, radius, force, steps);
        checkStorm(storm);
        if (stormCount >= MOST_STORMS) {
            throw new IllegalStateException("there were 30 storms in this year");
        }
        tryStorm(storm);
        takeTrialOver();
        return trial.report[TOLD_CLAIMS];
    }

    public int told(int storm, int what) throws IndexOutOfBoundsException {
        if (!isIn(storm, 0, stormCount - 1)) {
            throw new IndexOutOfBoundsException("there is no such storm");
        }
        checkWhat(what, STORM_TELLS);
        return reports[storm][what];
    }

    public int wouldBe(int x, int y, int dx, int dy, int radius, int force, int steps, int what)
            throws IllegalArgumentException, IndexOutOfBoundsException {
        Storm storm = new Storm(x, y, dx, dy, radius, force, steps);
        checkStorm(storm);
        checkWhat(what, STORM_TELLS);
        tryStorm(storm);
        return trial.report[what];
    }

    public int worst(int radius, int force) throws IllegalArgumentException {
        Storm storm = westStorm(0, radius, force);
        checkStorm(storm);
        int worstRow = NONE;
        int greatest = 0;
        for (int row = 0; row < SIDE; row++) {
            storm.y = row;
            tryStorm(storm);
            if (trial.report[TOLD_CLAIMS] > greatest) {
                greatest = trial.report[TOLD_CLAIMS];
                worstRow = row;
            }
        }
        return worstRow;
    }

    public int advise(int y, int radius, int force) throws IllegalArgumentException {
        if (!isIn(y, 0, SIDE - 1)) {
            throw new IllegalArgumentException("y is not 0 to 19");
        }
        Storm storm = westStorm(y, radius, force);
        checkStorm(storm);
        int best = NONE;
        int least = damageOf(storm);
        for (int h = 0; h < houses.size(); h++) {
            House house = houses.get(h);
            if (house.hasNet) {
                continue;
            }
            int damage = damageWithNet(house, storm);
            if (damage < least) {
                least = damage;
                best = h;
            }
        }
        return best;
    }

    public double loss() {
        int values = 0;
        for (int h = 0; h < houses.size(); h++) {
            values += houses.get(h).values();
        }
        if (values == 0) {
            return 0;
        }
        return (double) lostOfAll() / values;
    }

    public long digest() {
        long d = 541;
        for (int what = 0; what < COUNT_TELLS; what++) {
            d = d * 31 + tellCount(what);
        }
        for (int g = 0; g < growers.size(); g++) {
            for (int what = 0; what < GROWER_TELLS; what++) {
                d = d * 31 + tellGrower(g, what);
            }
        }
        for (int h = 0; h < houses.size(); h++) {
            d = digestHouse(d, houses.get(h));
        }
        for (int l = 0; l < layers.size(); l++) {
            for (int what = 0; what < LAYER_TELLS; what++) {
                d = d * 31 + tellLayer(layers.get(l), what);
            }
        }
        for (int s = 0; s < stormCount; s++) {
            for (int what = 0; what < STORM_TELLS; what++) {
                d = d * 31 + reports[s][what];
            }
        }
        return d;
    }

    // ---- what is refused

    private static boolean isIn(int number, int least, int most) {
        return number >= least && number <= most;
    }

    private void checkGrower(int grower) {
        if (!isIn(grower, 0, growers.size() - 1)) {
            throw new IndexOutOfBoundsException("there is no such grower");
        }
    }

    private void checkHouse(int house) {
        if (!isIn(house, 0, houses.size() - 1)) {
            throw new IndexOutOfBoundsException("there is no such house");
        }
    }

    private static void checkWhat(int what, int tells) {
        if (!isIn(what, 0, tells - 1)) {
            throw new IndexOutOfBoundsException("what is not a number of what is told");
        }
    }

    private static void checkStorm(Storm storm) {
        if (!storm.isAllowed()) {
            throw new IllegalArgumentException("the storm is not within its bounds");
        }
    }

    // ---- the land

    private static int cellAt(int x, int y) {
        return y * SIDE + x;
    }

    private boolean isBuiltOn(int x, int y, int wide, int deep) {
        for (int h = 0; h < houses.size(); h++) {
            if (houses.get(h).overlaps(x, y, wide, deep)) {
                return true;
            }
        }
        return false;
    }

    private void makeWhole(House house) {
        for (int y = house.y; y < house.y + house.deep; y++) {
            for (int x = house.x; x < house.x + house.wide; x++) {
                panes[cellAt(x, y)] = WHOLE;
            }
        }
    }

    private int panesOfHouse(House house, int state) {
        int found = 0;
        for (int y = house.y; y < house.y + house.deep; y++) {
            for (int x = house.x; x < house.x + house.wide; x++) {
                if (panes[cellAt(x, y)] == state) {
                    found++;
                }
            }
        }
        return found;
    }

    private int lostOfHouse(House house) {
        return panesOfHouse(house, CRACKED) * house.lostByCrack() + panesOfHouse(house, BROKEN) * house.value;
    }

    private int panesOfAll(int state) {
        int found = 0;
        for (int h = 0; h < houses.size(); h++) {
            found += panesOfHouse(houses.get(h), state);
        }
        return found;
    }

    private int lostOfAll() {
        int lost = 0;
        for (int h = 0; h < houses.size(); h++) {
            lost += lostOfHouse(houses.get(h));
        }
        return lost;
    }

    // ---- what is told

    private int tellGrower(int number, int what) {
        Grower grower = growers.get(number);
        switch (what) {
            case 0:
                return grower.coins;
            case 1:
                return grower.deductible;
            case 2:
                return grower.limit;
            case 3:
                return grower.rate;
            case 4:
                return grower.factor;
            case 5:
                return grower.claimed;
            case 6:
                return grower.owed;
            case 7:
                return housesOfGrower(number);
            case 8:
                return valuesOfGrower(number);
            default:
                return lostOfGrower(number);
        }
    }

    private int housesOfGrower(int number) {
        int found = 0;
        for (int h = 0; h < houses.size(); h++) {
            if (houses.get(h).owner == number) {
                found++;
            }
        }
        return found;
    }

    private int valuesOfGrower(int number) {
        int values = 0;
        for (int h = 0; h < houses.size(); h++) {
            if (houses.get(h).owner == number) {
                values += houses.get(h).values();
            }
        }
        return values;
    }

    private int lostOfGrower(int number) {
        int lost = 0;
        for (int h = 0; h < houses.size(); h++) {
            if (houses.get(h).owner == number) {
                lost += lostOfHouse(houses.get(h));
            }
        }
        return lost;
    }

    private int tellHouse(House house, int what) {
        switch (what) {
            case 0:
                return house.owner;
            case 1:
                return house.x;
            case 2:
                return house.y;
            case 3:
                return house.wide;
            case 4:
                return house.deep;
            case 5:
                return house.strength;
            case 6:
                return house.value;
            case 7:
                return house.hasNet ? 1 : 0;
            case 8:
                return panesOfHouse(house, CRACKED);
            case 9:
                return panesOfHouse(house, BROKEN);
            default:
                return lostOfHouse(house);
        }
    }

    private static int tellLayer(Layer layer, int what) {
        switch (what) {
            case 0:
                return layer.attachment;
            case 1:
                return layer.limit;
            case 2:
                return layer.share;
            case 3:
                return layer.left;
            default:
                return layer.paid;
        }
    }

    private int tellCount(int what) {
        switch (what) {
            case 0:
                return growers.size();
            case 1:
                return houses.size();
            case 2:
                return layers.size();
            case 3:
                return poolCoins;
            case 4:
                return owedToAll();
            case 5:
                return stormCount;
            case 6:
                return yearCount;
            case 7:
                return paneCountOfAll();
            case 8:
                return panesOfAll(CRACKED);
            case 9:
                return panesOfAll(BROKEN);
            default:
                return lostOfAll();
        }
    }

    private int owedToAll() {
        int owed = 0;
        for (int g = 0; g < growers.size(); g++) {
            owed += growers.get(g).owed;
        }
        return owed;
    }

    private int paneCountOfAll() {
        int found = 0;
        for (int h = 0; h < houses.size(); h++) {
            found += houses.get(h).paneCount();
        }
        return found;
    }

    private long digestHouse(long before, House house) {
        long d = before;
        for (int what = 0; what < HOUSE_TELLS; what++) {
            d = d * 31 + tellHouse(house, what);
        }
        for (int y = house.y; y < house.y + house.deep; y++) {
            for (int x = house.x; x < house.x + house.wide; x++) {
                d = d * 31 + panes[cellAt(x, y)];
            }
        }
        return d;
    }

    // ---- the end of a year

    private int takePremium(int number) {
        Grower grower = growers.get(number);
        int premium = grower.premiumFor(valuesOfGrower(number));
        grower.coins -= premium;
        poolCoins += premium;
        grower.changeFactor();
        return premium;
    }

    private void payDebts() {
        for (int g = 0; g < growers.size(); g++) {
            Grower grower = growers.get(g);
            int payment = Math.min(grower.owed, poolCoins);
            poolCoins -= payment;
            grower.coins += payment;
            grower.owed -= payment;
        }
    }

    private void beginYear() {
        for (int g = 0; g < growers.size(); g++) {
            growers.get(g).claimed = 0;
        }
        for (int l = 0; l < layers.size(); l++) {
            Layer layer = layers.get(l);
            layer.left = 2 * layer.limit;
        }
        stormCount = 0;
    }

    // ---- storms, tried beside the state

    private static Storm westStorm(int row, int radius, int force) {
        return new Storm(0, row, 2, 0, radius, force, 12);
    }

    private void tryStorm(Storm storm) {
        blow(storm);
        claimDamages();
        callLayers();
        payClaims();
    }

    private int damageOf(Storm storm) {
        blow(storm);
        return trial.report[TOLD_DAMAGE];
    }

    private int damageWithNet(House house, Storm storm) {
        house.hasNet = true;
        int damage = damageOf(storm);
        house.hasNet = false;
        return damage;
    }

    private void blow(Storm storm) {
        trial.begin(panes);
        for (int step = 0; step < storm.steps; step++) {
            int middleX = storm.x + step * storm.dx;
            int middleY = storm.y + step * storm.dy;
            for (int h = 0; h < houses.size(); h++) {
                hitHouse(houses.get(h), storm, middleX, middleY);
            }
        }
    }

    private void hitHouse(House house, Storm storm, int middleX, int middleY) {
        int west = Math.max(house.x, middleX - storm.radius);
        int east = Math.min(house.x + house.wide - 1, middleX + storm.radius);
        int north = Math.max(house.y, middleY - storm.radius);
        int south = Math.min(house.y + house.deep - 1, middleY + storm.radius);
        int force = house.hasNet ? storm.force - NET_HOLDS : storm.force;
        for (int y = north; y <= south; y++) {
            for (int x = west; x <= east; x++) {
                int away = Math.max(Math.abs(x - middleX), Math.abs(y - middleY));
                trial.hitPane(house, cellAt(x, y), force - 2 * away);
            }
        }
    }

    private void claimDamages() {
        int sum = 0;
        for (int g = 0; g < growers.size(); g++) {
            int claim = growers.get(g).claimFor(trial.damages[g]);
            trial.claims[g] = claim;
            sum += claim;
        }
        trial.report[TOLD_CLAIMS] = sum;
    }

    private void callLayers() {
        int sum = 0;
        for (int l = 0; l < layers.size(); l++) {
            int payment = layers.get(l).payFor(trial.report[TOLD_CLAIMS]);
            trial.layerPayments[l] = payment;
            sum += payment;
        }
        trial.report[TOLD_LAYERS_PAID] = sum;
    }

    private void payClaims() {
        int purse = poolCoins + trial.report[TOLD_LAYERS_PAID];
        int unpaid = 0;
        for (int g = 0; g < growers.size(); g++) {
            int payment = Math.min(trial.claims[g], purse);
            trial.payments[g] = payment;
            purse -= payment;
            unpaid += trial.claims[g] - payment;
        }
        trial.report[TOLD_UNPAID] = unpaid;
    }

    private void takeTrialOver() {
        System.arraycopy(trial.panes, 0, panes, 0, SIDE * SIDE);
        for (int l = 0; l < layers.size(); l++) {
            Layer layer = layers.get(l);
            layer.left -= trial.layerPayments[l];
            layer.paid += trial.layerPayments[l];
        }
        poolCoins += trial.report[TOLD_LAYERS_PAID];
        for (int g = 0; g < growers.size(); g++) {
            Grower grower = growers.get(g);
            grower.claimed += trial.claims[g];
            grower.coins += trial.payments[g];
            grower.owed += trial.claims[g] - trial.payments[g];
            poolCoins -= trial.payments[g];
        }
        System.arraycopy(trial.report, 0, reports[stormCount], 0, STORM_TELLS);
        stormCount++;
    }
}
