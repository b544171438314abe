/** The sentences of "Terms", each on both sides of where it turns: what cracks, breaks, is claimed, paid and cut. */
public final class TermsTest {
    public static void main(String[] args) {
        radius();
        middles();
        hail();
        behindNets();
        oneStepAStep();
        halves();
        claimEdges();
        claimsOfTwo();
        layerEdges();
        layersAgain();
        paymentEdges();
        premiumEdges();
        factorEdges();
        debtEdges();
        newYear();
        nothingElseChanges();
        rowsAndHouses();
        Check.finish();
    }

    // "if neither its column nor its row differs by more than the radius", on all four sides, for each radius
    private static void radius() {
        int[][] sides = {{1, 0}, {-1, 0}, {0, 1}, {0, -1}, {1, 1}, {-1, 1}, {1, -1}, {-1, -1}};
        for (int radius = 0; radius <= 5; radius++) {
            for (int[] side : sides) {
                HailPool pool = new HailPool();
                pool.addGrower(0);
                int within = radius == 0 ? 0 : 1;
                if (radius > 0) {
                    pool.build(0, 10 + radius * side[0], 10 + radius * side[1], 1, 1, 1, 10);
                }
                int beyond = radius + 1;
                pool.build(0, 10 + beyond * side[0], 10 + beyond * side[1], 1, 1, 1, 10);
                pool.storm(10, 10, 0, 0, radius, 20, 1);
                String at = "P15 radius " + radius + " to " + side[0] + ", " + side[1];
                Check.due(at + ": as far as it goes", pool.count(8), within);
                Check.due(at + ": no farther", pool.pane(10 + beyond * side[0], 10 + beyond * side[1]), 0);
            }
        }
        HailPool middle = Land.pane(0, 10, 10, 1, 10);
        middle.storm(10, 10, 0, 0, 0, 20, 1);
        Check.due("P15 radius 0 is the middle alone", middle.pane(10, 10), 1);
        // One difference within the radius and the other one not.
        HailPool off = Land.pane(0, 10, 10, 1, 10);
        off.storm(10, 13, 0, 0, 2, 20, 1);
        off.storm(13, 10, 0, 0, 2, 20, 1);
        Check.due("P15 both must be within", off.pane(10, 10), 0);
    }

    // "In the step k, counted from 0, its middle is at x and k * dx, y and k * dy": the first step and the last one.
    private static void middles() {
        // The way, the pane that is reached, and by how many steps.
        int[][] ways = {
            {0, 0, 0, 0, 0, 0, 1}, {7, 8, 0, 0, 7, 8, 1}, {-20, 5, 1, 0, 9, 5, 30}, {39, 5, -1, 0, 10, 5, 30},
            {5, -20, 0, 1, 5, 9, 30}, {5, 39, 0, -1, 5, 10, 30}, {-20, -20, 3, 3, 19, 19, 14}, {39, 39, -3, -3, 0, 0, 14},
            {-20, 39, 2, -2, 0, 19, 11}, {39, -20, -3, 3, 18, 1, 8}, {19, 0, -3, 2, 1, 12, 7}, {0, 19, 3, -1, 18, 13, 7},
            {19, 19, -1, 0, 0, 19, 20}, {0, 0, 2, 3, 12, 18, 7},
        };
        for (int[] w : ways) {
            String way = "P15 the way from " + w[0] + ", " + w[1] + " by " + w[2] + ", " + w[3];
            HailPool pool = Land.pane(0, w[4], w[5], 9, 10);
            if (w[6] > 1) {
                pool.storm(w[0], w[1], w[2], w[3], 0, 20, w[6] - 1);
                Check.due(way + ": one step too few", pool.pane(w[4], w[5]), 0);
            }
            pool.storm(w[0], w[1], w[2], w[3], 0, 20, w[6]);
            Check.due(way + ": the last step", pool.pane(w[4], w[5]), 1);
        }
    }

    // "the hail has force less 2 * d there": for each force, strength and distance; d is the greater difference.
    private static void hail() {
        for (int d = 0; d <= 5; d++) {
            for (int strength = 1; strength <= 9; strength++) {
                // Just as much as the strength does nothing; one more cracks.
                int force = strength + 2 * d;
                HailPool pool = Land.pane(0, 8, 8, strength, 10);
                String at = "P15 d " + d + ", strength " + strength;
                pool.storm(8 - d, 8, 0, 0, 5, Math.min(20, force), 30);
                Check.due(at + ": not greater than the strength", pool.pane(8, 8), 0);
                if (force + 1 <= 20) {
                    pool.storm(8 + d / 2, 8 - d, 0, 0, 5, force + 1, 1);
                    Check.due(at + ": greater than the strength", pool.pane(8, 8), 1);
                    breaking(pool, d, strength, at);
                }
            }
        }
    }

    // "a cracked one breaks, if twice this is greater than the strength"
    private static void breaking(HailPool pool, int d, int strength, String at) {
        int least = strength / 2 + 1 + 2 * d;
        if (least > 1) {
            pool.storm(8, 8 + d, 0, 0, 5, least - 1, 30);
        }
        Check.due(at + ": twice it is not greater", pool.pane(8, 8), 1);
        pool.storm(8 - d, 8 + d / 2, 0, 0, 5, least, 1);
        Check.due(at + ": twice it is greater", pool.pane(8, 8), 2);
    }

    // "and 5 less for a house with a net", also "as it is behind the net"; hail below nothing does nothing.
    private static void behindNets() {
        for (int strength = 1; strength <= 9; strength++) {
            HailPool pool = Land.pane(0, 8, 8, strength, 10);
            pool.setNet(0, true);
            pool.storm(8, 8, 0, 0, 0, strength + 5, 30);
            Check.due("P15 a net, not greater than " + strength, pool.pane(8, 8), 0);
            pool.storm(8, 8, 0, 0, 0, strength + 6, 1);
            Check.due("P15 a net, greater than " + strength, pool.pane(8, 8), 1);
            for (int force = 1; force <= 5; force++) {
                pool.storm(8, 8, 0, 0, 5, force, 1);
                pool.storm(3, 3, 0, 0, 5, force, 1);
            }
            pool.storm(8, 8, 0, 0, 0, strength / 2 + 5, 30);
            Check.due("P15 a net, twice is not greater than " + strength, pool.pane(8, 8), 1);
            pool.storm(8, 8, 0, 0, 0, strength / 2 + 6, 1);
            Check.due("P15 a net, twice is greater than " + strength, pool.pane(8, 8), 2);
        }
        // A net of another house helps nothing, and one that is taken away does no more.
        HailPool pool = Land.pane(0, 8, 8, 5, 10);
        pool.build(0, 9, 8, 1, 1, 5, 10);
        pool.build(0, 10, 8, 1, 1, 5, 10);
        pool.setNet(1, true);
        pool.setNet(2, true);
        pool.setNet(2, false);
        pool.storm(8, 8, 1, 0, 0, 10, 3);
        Check.due("P15 a house without a net", pool.pane(8, 8), 1);
        Check.due("P15 the house with the net", pool.pane(9, 8), 0);
        Check.due("P15 the net was taken away", pool.pane(10, 8), 1);
    }

    // "a pane goes no more than one of these steps in a step of the storm"
    private static void oneStepAStep() {
        HailPool pool = Land.pane(0, 8, 8, 1, 10);
        pool.storm(8, 8, 0, 0, 0, 20, 1);
        Check.due("P15 one step cracks", pool.pane(8, 8), 1);
        pool.storm(8, 8, 0, 0, 0, 20, 1);
        Check.due("P15 the next one breaks", pool.pane(8, 8), 2);
        HailPool two = Land.pane(0, 8, 8, 1, 10);
        two.storm(8, 8, 0, 0, 0, 20, 2);
        Check.due("P15 two steps crack and break", two.pane(8, 8), 2);
        Check.due("P16 no more whole, once", two.told(0, 0), 1);
        Check.due("P16 broken, once", two.told(0, 1), 1);
        two.storm(8, 8, 0, 0, 0, 20, 30);
        Check.due("P16 what is broken is hit for nothing", two.told(1, 0) + two.told(1, 1) + two.told(1, 2), 0);
    }

    // "what is lost of it is 0, value / 2, or value", cut
    private static void halves() {
        for (int value : new int[] {1, 2, 3, 4, 999, 1000}) {
            HailPool pool = Land.pane(1000, 8, 8, 1, value);
            Check.due("P8 nothing of " + value, pool.house(0, 10), 0);
            Land.crackPane(pool, 8, 8);
            Check.due("P8 half of " + value, pool.house(0, 10), value / 2);
            Check.due("P7 half of " + value, pool.grower(0, 9), value / 2);
            Check.due("P13 half of " + value, pool.count(10), value / 2);
            Check.due("P16 half of " + value, pool.told(0, 2), value / 2);
            double half = value / 2;
            Check.dueDouble("P20 half of " + value, pool::loss, half / value);
            Land.crackPane(pool, 8, 8);
            Check.due("P8 all of " + value, pool.house(0, 10), value);
            Check.due("P16 the rest of " + value, pool.told(1, 2), value - value / 2);
            Check.dueDouble("P20 all of " + value, pool::loss, 1.0);
        }
    }

    // "the damage less the deductible, at most the limit less what was claimed in this year, but at least 0"
    private static void claimEdges() {
        // Deductible, limit, and the claims of two storms with a damage of 100 each.
        int[][] policies = {
            {0, 100000, 100, 100}, {99, 100000, 1, 1}, {100, 100000, 0, 0}, {101, 100000, 0, 0}, {10000, 1, 0, 0},
            {0, 1, 1, 0}, {0, 99, 99, 0}, {0, 100, 100, 0}, {0, 101, 100, 1}, {0, 199, 100, 99}, {0, 200, 100, 100},
            {10, 90, 90, 0}, {10, 89, 89, 0}, {10, 91, 90, 1}, {60, 79, 40, 39}, {60, 80, 40, 40}, {60, 81, 40, 40},
        };
        for (int[] p : policies) {
            HailPool pool = Land.grower(0);
            pool.build(0, 0, 0, 2, 1, 1, 100);
            pool.insure(0, p[0], p[1], 1);
            String policy = "P15 deductible " + p[0] + ", limit " + p[1];
            Check.due(policy + ": would be", pool.wouldBe(0, 0, 0, 0, 0, 20, 2, 3), p[2]);
            Check.due(policy + ": the first claim", Land.breakPane(pool, 0, 0), p[2]);
            Check.due(policy + ": claimed", pool.grower(0, 5), p[2]);
            Check.due(policy + ": would be", pool.wouldBe(1, 0, 0, 0, 0, 20, 2, 3), p[3]);
            Check.due(policy + ": the second claim", Land.breakPane(pool, 1, 0), p[3]);
            Check.due(policy + ": claimed", pool.grower(0, 5), p[2] + p[3]);
            Check.due(policy + ": told", pool.told(0, 3) * 1000 + pool.told(1, 3), p[2] * 1000 + p[3]);
            Check.due(policy + ": the damage is told whole", pool.told(1, 2), 100);
            // The pool has nothing: "Claims count as claimed, paid or not."
            Check.due(policy + ": owed", pool.grower(0, 6), p[2] + p[3]);
        }
        // A limit that is set just at, or below, what was claimed already.
        for (int limit = 99; limit <= 101; limit++) {
            HailPool pool = Land.grower(0);
            pool.build(0, 0, 0, 2, 1, 1, 100);
            pool.insure(0, 0, 500, 1);
            Land.breakPane(pool, 0, 0);
            Check.due("P5 the limit before", pool.insure(0, 0, limit, 1), 500);
            Check.due("P5 what was claimed stays", pool.grower(0, 5), 100);
            Check.due("P15 a new limit of " + limit, Land.breakPane(pool, 1, 0), Math.max(0, limit - 100));
        }
    }

    // "for each grower ...: the damage is by how much is lost more of all panes of all houses of this one"
    private static void claimsOfTwo() {
        HailPool pool = new HailPool();
        for (int g = 0; g < 6; g++) {
            pool.addGrower(0);
        }
        for (int h = 0; h < 12; h++) {
            pool.build(h % 6, h, 4, 1, 1, 1, 100 + 2 * h);
        }
        // The deductible counts once a grower, not once a house; the last one has no policy.
        for (int g = 0; g < 5; g++) {
            pool.insure(g, 150, 1000, 1);
        }
        int claims = 0;
        for (int g = 0; g < 5; g++) {
            claims += 100 + 2 * g + 100 + 2 * (g + 6) - 150;
        }
        pool.storm(0, 4, 1, 0, 0, 20, 12);
        pool.storm(0, 4, 1, 0, 0, 20, 12);
        // Each storm does half of it, 100 + 2 * g + 6 of each: all within the deductible.
        Check.due("P15 halves within the deductible", pool.told(0, 3) + pool.told(1, 3), 0);
        HailPool whole = new HailPool();
        for (int g = 0; g < 6; g++) {
            whole.addGrower(0);
        }
        for (int h = 0; h < 12; h++) {
            whole.build(h % 6, h, 4, 1, 1, 1, 100 + 2 * h);
        }
        for (int g = 0; g < 5; g++) {
            whole.insure(g, 150, 1000, 1);
        }
        Check.due("P15 the claims of five", whole.storm(0, 4, 1, 0, 1, 20, 12), claims);
        Check.due("P16 the damage of six", whole.told(0, 2), 12 * 100 + 2 * 66);
        for (int g = 0; g < 6; g++) {
            int claim = g == 5 ? 0 : 62 + 4 * g;
            Check.due("P7 claimed by " + g, whole.grower(g, 5), claim);
            Check.due("P7 owed to " + g, whole.grower(g, 6), claim);
        }
    }

    // "what is beyond its attachment, at most its limit, times its share / 100, but at most what it still has"
    private static void layerEdges() {
        // Attachment, limit, share, and what is paid of a claim of 100.
        int[][] layers = {
            {100, 100000, 100, 0}, {101, 100000, 100, 0}, {100000, 1, 1, 0}, {99, 100000, 100, 1}, {99, 100000, 99, 0},
            {98, 100000, 50, 1}, {98, 100000, 49, 0}, {0, 100000, 100, 100}, {0, 100, 100, 100}, {0, 99, 100, 99},
            {0, 101, 100, 100}, {0, 1, 100, 1}, {0, 1, 99, 0}, {0, 100000, 1, 1}, {1, 100000, 1, 0}, {0, 60, 55, 33},
            {0, 61, 55, 33}, {40, 60, 55, 33}, {39, 100, 55, 33}, {38, 100, 55, 34}, {41, 100, 55, 32},
        };
        for (int[] l : layers) {
            HailPool pool = Land.pane(0, 0, 0, 1, 100);
            pool.insure(0, 0, 100000, 1);
            pool.addLayer(l[0], l[1], l[2]);
            Land.breakPane(pool, 0, 0);
            String layer = "P15 attachment " + l[0] + ", limit " + l[1] + ", share " + l[2];
            Check.due(layer + ": paid", pool.layer(0, 4), l[3]);
            Check.due(layer + ": still there", pool.layer(0, 3), 2 * l[1] - l[3]);
            Check.due(layer + ": told", pool.told(0, 4), l[3]);
            Check.due(layer + ": the pool could not pay", pool.told(0, 5), 100 - l[3]);
        }
    }

    // "2 * limit at its beginning", and what it still has, storm by storm and year by year
    private static void layersAgain() {
        HailPool pool = Land.grower(0);
        pool.build(0, 0, 0, 6, 1, 1, 100);
        pool.insure(0, 0, 100000, 1);
        pool.addLayer(0, 70, 100);
        pool.addLayer(50, 45, 100);
        pool.addLayer(0, 100, 70);
        int[][] paid = {{70, 45, 70}, {70, 45, 70}, {0, 0, 60}, {0, 0, 0}};
        int[] sums = new int[3];
        for (int s = 0; s < 4; s++) {
            Land.breakPane(pool, s, 0);
            int sum = 0;
            for (int l = 0; l < 3; l++) {
                sums[l] += paid[s][l];
                sum += paid[s][l];
                Check.due("P12 layer " + l + " has paid, storm " + s, pool.layer(l, 4), sums[l]);
            }
            Check.due("P16 all layers, storm " + s, pool.told(s, 4), sum);
        }
        for (int l = 0; l < 3; l++) {
            Check.due("P12 nothing is left of " + l, pool.layer(l, 3), 0);
        }
        pool.endYear();
        Check.due("P12 a new year", pool.layer(0, 3) * 1000000 + pool.layer(1, 3) * 1000 + pool.layer(2, 3), 140090200);
        Land.breakPane(pool, 4, 0);
        Check.due("P12 paid in all years", pool.layer(0, 4) * 1000000 + pool.layer(1, 4) * 1000 + pool.layer(2, 4),
                210135270);
        Check.due("P12 less what it paid", pool.layer(0, 3) * 1000 + pool.layer(1, 3), 70045);
        // A layer that comes within the year has all for it.
        Check.due("P11 a layer within the year", pool.addLayer(0, 7, 100), 3);
        Check.due("P11 has all it has", pool.layer(3, 3), 14);
        Check.due("P12 and has paid nothing", pool.layer(3, 4), 0);
        // The sum of all claims counts, not each one: 60 and 60 are beyond 100.
        HailPool two = Land.pane(0, 0, 0, 1, 60);
        two.addGrower(0);
        two.build(1, 1, 0, 1, 1, 1, 60);
        two.insure(0, 0, 100, 1);
        two.insure(1, 0, 100, 1);
        two.addLayer(100, 100, 100);
        two.storm(0, 0, 0, 0, 1, 20, 2);
        Check.due("P15 beyond by the sum", two.layer(0, 4), 20);
    }

    // "the pool pays the claims, in ascending order of growers, each as far as it has coins; what it can't pay it owes"
    private static void paymentEdges() {
        // The coins of the pool, and what the growers 0, 1 and 2 get of their claims of 30, 40 and 50.
        int[][] payments = {
            {0, 0, 0, 0}, {1, 1, 0, 0}, {29, 29, 0, 0}, {30, 30, 0, 0}, {31, 30, 1, 0}, {69, 30, 39, 0}, {70, 30, 40, 0},
            {71, 30, 40, 1}, {119, 30, 40, 49}, {120, 30, 40, 50}, {121, 30, 40, 50},
        };
        for (int[] p : payments) {
            HailPool pool = new HailPool();
            // The houses come in another order than the growers.
            for (int g = 0; g < 3; g++) {
                pool.addGrower(7);
                pool.insure(g, 0, 1000, 1);
            }
            for (int g = 2; g >= 0; g--) {
                pool.build(g, 2 - g, 0, 1, 1, 1, 30 + 10 * g);
            }
            if (p[0] > 0) {
                pool.fund(p[0]);
            }
            int unpaid = Math.max(0, 120 - p[0]);
            String coins = "P15 with " + p[0] + " coins";
            Check.due(coins + ": it would not pay", pool.wouldBe(1, 0, 0, 0, 1, 20, 2, 5), unpaid);
            Check.due(coins + ": all claims", pool.storm(1, 0, 0, 0, 1, 20, 2), 120);
            for (int g = 0; g < 3; g++) {
                Check.due(coins + ": paid to " + g, pool.grower(g, 0), 7 + p[1 + g]);
                Check.due(coins + ": owed to " + g, pool.grower(g, 6), 30 + 10 * g - p[1 + g]);
                Check.due(coins + ": claimed by " + g, pool.grower(g, 5), 30 + 10 * g);
            }
            Check.due(coins + ": not paid", pool.told(0, 5), unpaid);
            Check.due(coins + ": owed", pool.count(4), unpaid);
            Check.due(coins + ": left", pool.count(3), Math.max(0, p[0] - 120));
        }
    }

    // "values * rate / 1000 * factor / 100 (both cut, one after the other), at most the coins"
    private static void premiumEdges() {
        // Panes, value, rate, coins, and the premiums of two years without a claim (factors 100 and 90).
        int[][] premiums = {
            {1, 1, 1, 100, 0, 0}, {1, 999, 1, 100, 0, 0}, {1, 1000, 1, 100, 1, 0}, {2, 1000, 1, 100, 2, 1},
            {1, 99, 10, 100, 0, 0}, {1, 100, 10, 100, 1, 0}, {1, 19, 100, 100, 1, 0}, {1, 20, 100, 100, 2, 1},
            {1, 1000, 10, 9, 9, 0}, {1, 1000, 10, 10, 10, 0}, {1, 1000, 10, 11, 10, 1}, {1, 1000, 10, 18, 10, 8},
            {1, 1000, 10, 19, 10, 9}, {1, 1000, 10, 20, 10, 9}, {1, 1000, 10, 0, 0, 0}, {6, 333, 55, 1000, 109, 98},
        };
        for (int[] p : premiums) {
            HailPool pool = Land.grower(p[3]);
            pool.build(0, 0, 0, p[0], 1, 1, p[1]);
            pool.insure(0, 0, 1, p[2]);
            String at = "P14 " + p[0] + " panes of " + p[1] + " at " + p[2] + " with " + p[3];
            Check.due(at + ": the first year", pool.endYear(), p[4]);
            Check.due(at + ": the coins", pool.grower(0, 0), p[3] - p[4]);
            Check.due(at + ": the second year", pool.endYear(), p[5]);
            Check.due(at + ": the coins", pool.grower(0, 0), p[3] - p[4] - p[5]);
            Check.due(at + ": the pool", pool.count(3), p[4] + p[5]);
        }
        // The values of all houses are added ahead of the cuts: 500 and 500 at 1 are 1.
        HailPool two = Land.pane(10, 0, 0, 1, 500);
        two.build(0, 5, 5, 1, 1, 1, 500);
        two.addGrower(10);
        two.build(1, 9, 9, 1, 1, 1, 900);
        two.insure(0, 0, 1, 1);
        two.insure(1, 0, 1, 1);
        Check.due("P14 the values of two houses", two.endYear(), 1);
        // "whatever is lost"
        HailPool lost = Land.pane(100, 0, 0, 1, 1000);
        lost.insure(0, 10000, 1, 50);
        Land.breakPane(lost, 0, 0);
        Check.due("P14 the value of a broken pane", lost.endYear(), 50);
    }

    // "the factor is 20 more (at most 200), otherwise 10 less (at least 50)"
    private static void factorEdges() {
        HailPool pool = Land.pane(1000000, 0, 0, 1, 1000);
        pool.insure(0, 0, 100000, 10);
        boolean[] claims = new boolean[40];
        // Down to 50, up to 190, then 200 by a cut, down and up again.
        for (int year = 6; year < 14; year++) {
            claims[year] = true;
        }
        claims[15] = true;
        claims[16] = true;
        int factor = 100;
        for (int year = 0; year < 40; year++) {
            if (claims[year]) {
                Land.breakPane(pool, 0, 0);
                pool.mend(0);
            }
            int premium = pool.endYear();
            Check.due("P14 the premium of year " + year, premium, 10 * factor / 100);
            factor = claims[year] ? Math.min(200, factor + 20) : Math.max(50, factor - 10);
            Check.due("P14 the factor behind year " + year, pool.grower(0, 4), factor);
        }
        Check.due("P14 the least at last", factor, 50);
        // 180 and 20 are 200, 190 and 20 are cut to it; 60 less 10 is 50, 50 less 10 is cut to it.
        int[][] steps = {{4, 0, 180}, {5, 0, 200}, {5, 1, 190}, {6, 0, 200}, {0, 4, 60}, {0, 5, 50}, {0, 6, 50}};
        for (int[] s : steps) {
            HailPool stepped = Land.pane(1000000, 0, 0, 1, 10);
            stepped.insure(0, 0, 100000, 1);
            for (int i = 0; i < s[0] + s[1]; i++) {
                if (i < s[0]) {
                    Land.breakPane(stepped, 0, 0);
                    stepped.mend(0);
                }
                stepped.endYear();
            }
            Check.due("P14 " + s[0] + " years with claims, then " + s[1] + " without", stepped.grower(0, 4), s[2]);
        }
        // "Without a policy the factor stays", also with damage.
        HailPool none = Land.pane(0, 0, 0, 1, 10);
        Land.breakPane(none, 0, 0);
        none.endYear();
        none.endYear();
        Check.due("P14 without a policy", none.grower(0, 4), 100);
        // Damage within the deductible is no claim.
        HailPool within = Land.pane(0, 0, 0, 1, 10);
        within.insure(0, 10, 100, 1);
        Land.breakPane(within, 0, 0);
        within.endYear();
        Check.due("P14 damage, but no claim", within.grower(0, 4), 90);
        // A policy of the last day pays a premium; the new one does not touch the factor.
        HailPool late = Land.pane(1000, 0, 0, 1, 1000);
        late.endYear();
        late.insure(0, 0, 100, 10);
        Check.due("P14 a late policy", late.endYear(), 10);
        late.insure(0, 0, 100, 20);
        Check.due("P5 the factor stays", late.grower(0, 4), 90);
        Check.due("P14 the new rate at the old factor", late.endYear(), 18);
    }

    // "Then the pool pays what it owes to all growers, in ascending order, as far as it has coins."
    private static void debtEdges() {
        // The coins of the pool, and what the growers 0, 1 and 2 get of the 30, 40 and 50 that are owed.
        int[][] payments = {
            {0, 0, 0, 0}, {1, 1, 0, 0}, {30, 30, 0, 0}, {31, 30, 1, 0}, {70, 30, 40, 0}, {71, 30, 40, 1},
            {119, 30, 40, 49}, {120, 30, 40, 50}, {121, 30, 40, 50},
        };
        for (int[] p : payments) {
            HailPool pool = new HailPool();
            for (int g = 0; g < 3; g++) {
                pool.addGrower(0);
                pool.insure(g, 0, 1000, 100);
            }
            for (int g = 2; g >= 0; g--) {
                pool.build(g, 2 - g, 0, 1, 1, 1, 30 + 10 * g);
            }
            pool.storm(1, 0, 0, 0, 1, 20, 2);
            if (p[0] > 0) {
                pool.fund(p[0]);
            }
            Check.due("P10 funds pay nothing yet", pool.count(4), 120);
            // Those who have no coins pay no premium, though they are paid then.
            Check.due("P14 no coins, no premiums", pool.endYear(), 0);
            for (int g = 0; g < 3; g++) {
                Check.due("P14 with " + p[0] + ": paid to " + g, pool.grower(g, 0), p[1 + g]);
                Check.due("P14 with " + p[0] + ": owed to " + g, pool.grower(g, 6), 30 + 10 * g - p[1 + g]);
            }
            Check.due("P14 with " + p[0] + ": left", pool.count(3), Math.max(0, p[0] - 120));
            Check.due("P14 with " + p[0] + ": owed", pool.count(4), Math.max(0, 120 - p[0]));
            Check.due("P14 what is owed is no claim of the new year", pool.grower(2, 5), 0);
        }
        // The premium of the last grower is there for the debt to the first one, in the same year.
        HailPool pool = Land.pane(0, 0, 0, 1, 30);
        pool.insure(0, 0, 1000, 1);
        pool.addGrower(1000);
        pool.build(1, 9, 9, 1, 1, 1, 1000);
        pool.insure(1, 0, 1000, 20);
        Land.breakPane(pool, 0, 0);
        Check.due("P14 the premium of the last", pool.endYear(), 20);
        Check.due("P14 is paid to the first", pool.grower(0, 0), 20);
        Check.due("P14 who is owed the rest", pool.grower(0, 6), 10);
    }

    // "Then nothing is claimed, no storm was there, and layers have all they have for a year."
    private static void newYear() {
        HailPool pool = Land.grower(0);
        pool.build(0, 0, 0, 3, 1, 1, 100);
        pool.insure(0, 0, 120, 1);
        pool.addLayer(0, 30, 100);
        Land.breakPane(pool, 0, 0);
        Check.due("P15 the rest of the limit", Land.breakPane(pool, 1, 0), 20);
        Check.due("P12 the rest of the layer", pool.layer(0, 3), 10);
        pool.endYear();
        Check.due("P14 nothing is claimed", pool.grower(0, 5), 0);
        Check.due("P14 no storm was there", pool.count(5), 0);
        Check.due("P14 the layer has all", pool.layer(0, 3), 60);
        Check.due("P14 panes stay as they are", pool.count(9), 2);
        Check.due("P14 the policy stays", pool.grower(0, 2), 120);
        Check.due("P17 the whole limit", pool.wouldBe(2, 0, 0, 0, 0, 20, 2, 3), 100);
        Check.due("P15 the whole limit", Land.breakPane(pool, 2, 0), 100);
        Check.due("P16 it is the number 0 again", pool.told(0, 3), 100);
        Check.due("P13 years", pool.count(6), 1);
    }

    // What was told of a storm stays, whatever comes then; and what a call does not name it does not touch.
    private static void nothingElseChanges() {
        HailPool pool = Land.some();
        int[] told = new int[12];
        for (int i = 0; i < 12; i++) {
            told[i] = pool.told(i / 6, i % 6);
        }
        pool.mend(0);
        pool.setNet(1, true);
        pool.insure(0, 0, 100000, 1);
        pool.fund(10000);
        pool.addLayer(0, 1000, 100);
        pool.addGrower(5);
        pool.storm(5, 5, 1, 0, 5, 20, 5);
        for (int i = 0; i < 12; i++) {
            Check.due("P16 told(" + i / 6 + ", " + i % 6 + ") stays", pool.told(i / 6, i % 6), told[i]);
        }
        HailPool mended = Land.pane(1000, 0, 0, 1, 10);
        mended.insure(0, 0, 100, 1);
        mended.setNet(0, true);
        mended.fund(3);
        mended.storm(0, 0, 0, 0, 0, 20, 2);
        Check.due("P6 mended", mended.mend(0), 10);
        Check.due("P6 the net stays", mended.house(0, 7), 1);
        Check.due("P6 what was claimed stays", mended.grower(0, 5), 10);
        Check.due("P6 what is owed stays", mended.grower(0, 6), 7);
        Check.due("P6 the pool's coins stay", mended.count(3), 0);
        Check.due("P4 a net changes no pane", mended.setNet(0, false) ? mended.pane(0, 0) : -5, 0);
    }

    // P18 and P19, for each row of the land and each radius.
    private static void rowsAndHouses() {
        for (int row = 0; row < 20; row++) {
            for (int radius = 0; radius <= 5; radius++) {
                // Each row as far as the radius hits it as often: the least of them, but none off the land.
                HailPool pool = Land.pane(0, 0, row, 1, 10);
                pool.insure(0, 0, 1000, 1);
                Check.due("P18 the row of " + row + ", radius " + radius, pool.worst(radius, 20),
                        Math.max(0, row - radius));
                Check.due("P19 at " + row + " behind its net", pool.advise(row, radius, 6), 0);
                Check.due("P19 too far from " + row, pool.advise(row < 10 ? row + 6 : row - 6, radius, 6), -1);
            }
        }
        // "of several the one with the smallest number", "-1 if no net would make the damage less": by one coin.
        HailPool pool = Land.pane(0, 0, 5, 1, 2);
        pool.build(0, 2, 5, 1, 1, 1, 2);
        pool.build(0, 4, 5, 1, 1, 1, 4);
        Check.unchanged(pool, "P19 the least damage", () -> pool.advise(5, 0, 6), 2);
        pool.setNet(2, true);
        Check.unchanged(pool, "P19 a net that spares one coin, the smaller number", () -> pool.advise(5, 0, 6), 0);
        pool.setNet(0, true);
        Check.unchanged(pool, "P19 the other one", () -> pool.advise(5, 0, 6), 1);
        pool.setNet(1, true);
        Check.unchanged(pool, "P19 all have nets", () -> pool.advise(5, 0, 6), -1);
        HailPool worthless = Land.pane(0, 0, 5, 1, 1);
        Check.due("P19 a crack that costs nothing needs no net", worthless.advise(5, 0, 6), -1);
        // The claims count for the worst row, not the damage: the limit is reached by both, the least row is told.
        HailPool limited = Land.pane(0, 0, 3, 1, 100);
        limited.build(0, 0, 9, 1, 1, 1, 1000);
        limited.insure(0, 0, 50, 1);
        Check.unchanged(limited, "P18 equal by the limit", () -> limited.worst(0, 20), 3);
        limited.insure(0, 0, 51, 1);
        Check.unchanged(limited, "P18 the limit is one more", () -> limited.worst(0, 20), 9);
        limited.storm(0, 9, 0, 0, 0, 20, 1);
        Check.unchanged(limited, "P18 the limit is used up", () -> limited.worst(0, 20), -1);
    }
}
