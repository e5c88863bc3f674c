import java.math.BigInteger;

/** Boundary cases of hour (promise 16), war (17), undo (18) and log (19). */
public final class HourBoundsTest {
    private static final Checks c = new Checks();
    private static final int NONE = SaltArmy.NONE;
    private static final int LOW = Integer.MIN_VALUE;
    private static final int HIGH = Integer.MAX_VALUE;

    public static void main(String[] args) {
        c.runAll(HourBoundsTest.class);
    }

    // ---- hour

    private static void promise16NoSuchSet() {
        int[] sets = {LOW, -2, -1, 16, 17, 31, 255, 256, HIGH};
        for (int set : sets) {
            c.refused("hour " + set, Scenes::busy, x -> x.hour(set), NONE);
        }
        c.due("the empty set", Scenes.busy().hour(0), 4);
        c.due("the full set", Scenes.busy().hour(15), 4);
    }

    private static void promise16SetsOfTwoToEightPlaces() {
        for (int places = 2; places <= 8; places++) {
            SaltArmy x = Checks.land(Checks.repeat("p;", places) + "cp" + (places - 1));
            int all = (1 << places) - 1;
            c.due("one too many of " + places, x.hour(all + 1), NONE);
            c.due("no hour", x.count(8), 0);
            c.due("no log", x.count(16), 0);
            c.due("all of " + places, x.hour(all), 1);
            c.due("log", x.log(0, 0), all);
            c.due("wet in the last place", Checks.grains(x, 0), 45);
            c.due("all but the last", x.hour(all >> 1), 2);
            c.due("dry in the last place", Checks.grains(x, 0), 45);
        }
    }

    private static void promise16ItRainsInEachPlaceByItself() {
        for (int place = 0; place < 8; place++) {
            SaltArmy x = Checks.land(Checks.repeat("p;", 8) + "cp0g99;cp2g99;cp4g99;cp6g99;cp7g99");
            int[] at = {0, 2, 4, 6, 7};
            x.hour(1 << place);
            for (int i = 0; i < at.length; i++) {
                c.due("grains at " + at[i], Checks.grains(x, i), at[i] == place ? 94 : 99);
                c.due("ground at " + at[i], x.spot(at[i], 4), at[i] == place ? 5 : 0);
            }
        }
    }

    private static void promise16RainTakesNoMoreThanItHas() {
        for (int grains = 1; grains <= 8; grains++) {
            SaltArmy x = Checks.land("p;p;cq6g" + grains);
            x.hour(1);
            c.due("grains of " + grains, Checks.grains(x, 0), Math.max(0, grains - 5));
            c.due("ground", x.spot(0, 4), Math.min(5, grains));
            c.due("lost", x.log(0, 1), Math.min(5, grains));
            c.due("gone", x.log(0, 2), grains <= 5 ? 1 : 0);
            c.due("known on the ground", x.spot(0, 5), grains <= 5 ? 6 : 0);
            c.due("it knows", Checks.company(x, 0, 5), grains <= 5 ? 0 : 6);
            c.due("who lives", x.count(9), grains <= 5 ? 0 : 1);
        }
    }

    private static void promise16ARoofKeepsWhoIsThereNotWhoComes() {
        SaltArmy x = Checks.land("pk1;p;wt2;c;cp1");
        x.march(1, 0);
        x.hour(1);
        c.due("there", Checks.grains(x, 0), 50);
        c.due("on the way to it", Checks.grains(x, 1), 45);
        c.due("on its ground", x.spot(0, 4), 5);
        x.hour(1);
        c.due("in the last hour of the way", Checks.grains(x, 1), 40);
        x.hour(1);
        c.due("under the roof", Checks.grains(x, 1), 40);
        SaltArmy y = Checks.land("pk1;p;wt2;c");
        y.march(0, 1);
        y.hour(1);
        c.due("it left: dry where it goes to", Checks.grains(y, 0), 50);
        y.hour(2);
        c.due("wet where it goes to", Checks.grains(y, 0), 45);
    }

    private static void promise16AFordTakesNoMoreThanItHas() {
        for (int grains = 1; grains <= 9; grains++) {
            SaltArmy x = Checks.land("p;p;wf5;cq9g" + grains);
            x.march(0, 1);
            x.hour(0);
            c.due("grains of " + grains, Checks.grains(x, 0), Math.max(0, grains - 5));
            c.due("river", x.count(10), Math.min(5, grains));
            c.due("lost", x.log(0, 1), Math.min(5, grains));
            c.due("gone", x.log(0, 2), grains <= 5 ? 1 : 0);
            c.due("not on the ground", x.spot(1, 4) + x.spot(1, 5) + x.spot(0, 4) + x.spot(0, 5), 0);
            c.due("it knows", Checks.company(x, 0, 5), grains <= 5 ? 0 : 9);
            c.due("all", x.count(12), grains);
        }
    }

    private static void promise16AFordIsBehindTheLastHour() {
        for (int hours = 1; hours <= 5; hours++) {
            SaltArmy x = Checks.land("p;p;wf9t" + hours + ";cg20");
            x.march(0, 1);
            for (int hour = 1; hour <= hours; hour++) {
                c.due("not yet", x.count(10), 0);
                x.hour(0);
            }
            c.due("river", x.count(10), 9);
            x.hour(0);
            c.due("once", x.count(10), 9);
        }
        SaltArmy none = Checks.land("p;p;wf0;cg1");
        none.march(0, 1);
        none.hour(0);
        c.due("a ford of 0", Checks.grains(none, 0), 1);
    }

    private static void promise16WhoIsGoneByRainComesToNoFord() {
        SaltArmy x = Checks.land("p;p;wf5;cg5q3;fp1b1");
        x.march(0, 1);
        x.hour(2);
        c.due("on the ground", x.spot(1, 4), 5);
        c.due("known on the ground", x.spot(1, 5), 3);
        c.due("river", x.count(10), 0);
        c.due("bucket", x.foe(0, 1), 1);
        c.due("gone once", x.log(0, 2), 1);
        SaltArmy y = Checks.land("p;p;wf5;cg6q3;fp1b1");
        y.march(0, 1);
        y.hour(2);
        c.due("in the river", y.count(10), 1);
        c.due("lost in the river", y.spot(1, 5), 0);
        c.due("bucket", y.foe(0, 1), 1);
        SaltArmy z = Checks.land("p;p;wf5;cg11q3;fp1b1");
        z.march(0, 1);
        z.hour(2);
        c.due("by the bucket", z.spot(1, 4), 6);
        c.due("bucket", z.foe(0, 1), 0);
        c.due("known on the ground", z.spot(1, 5), 3);
    }

    private static void promise16ABucketTakesNoMoreThanItHas() {
        for (int grains = 1; grains <= 8; grains++) {
            SaltArmy x = Checks.land("pk1;p;cq5g" + grains + ";fb1");
            x.hour(0);
            c.due("grains of " + grains, Checks.grains(x, 0), Math.max(0, grains - 5));
            c.due("ground", x.spot(0, 4), Math.min(5, grains));
            c.due("known on the ground", x.spot(0, 5), grains <= 5 ? 5 : 0);
            c.due("lost", x.log(0, 1), Math.min(5, grains));
            c.due("gone", x.log(0, 2), grains <= 5 ? 1 : 0);
        }
    }

    private static void promise16AsManyBucketsAsTheyHave() {
        for (int buckets = 0; buckets <= 9; buckets++) {
            SaltArmy x = Checks.land("pk1;p;cg99;fb" + buckets);
            for (int hour = 1; hour <= 11; hour++) {
                x.hour(0);
                int thrown = Math.min(hour, buckets);
                c.due("buckets", x.foe(0, 1), buckets - thrown);
                c.due("grains", Checks.grains(x, 0), 99 - 5 * thrown);
            }
        }
    }

    private static void promise16ABucketIsForTheLowestThatLivesThere() {
        SaltArmy x = Checks.land("p;p;wt2;cp1g20;cg3;cg20;cg20;f;f;fp1b1");
        x.march(3, 1);
        x.hour(0);
        c.due("elsewhere: the foe there", Checks.grains(x, 0), 15);
        c.due("the lowest", Checks.grains(x, 1), 0);
        c.due("the next that lives", Checks.grains(x, 2), 15);
        c.due("on a way", Checks.grains(x, 3), 20);
        x.hour(0);
        c.due("both on the lowest that lives", Checks.grains(x, 2), 5);
        c.due("there now, without a bucket left", Checks.grains(x, 3), 20);
        c.due("no buckets", x.foe(0, 1) + x.foe(1, 1) + x.foe(2, 1), 0);
        SaltArmy nobody = Checks.land("p;p;cp1;f");
        nobody.hour(0);
        c.due("nobody there", nobody.foe(0, 1), 2);
    }

    /** What lies and is known at the last place and the buckets of each foe are their own. */
    private static void promise16TheEighthPlaceAndTheFoes() {
        for (int foe = 0; foe < 3; foe++) {
            StringBuilder foes = new StringBuilder();
            for (int i = 0; i < 3; i++) {
                foes.append(i == foe ? ";fb8p7" : ";fb7p" + i);
            }
            SaltArmy x = Checks.land("p;p;p;p;p;p;p;p;cp7g5q15;cp6g99q1;cp0g3q8" + foes);
            x.hour(255);
            c.due("known at 7", x.spot(7, 5), 15);
            c.due("ground of 7", x.spot(7, 4), 5);
            c.due("known at 0", x.spot(0, 5), 8);
            c.due("ground of 0", x.spot(0, 4), 3);
            c.due("ground of 6", x.spot(6, 4), 5);
            c.due("nothing is known at 6", x.spot(6, 5), 0);
            for (int i = 0; i < 3; i++) {
                c.due("nobody was there for foe " + i, x.foe(i, 1), i == foe ? 8 : 7);
            }
            c.due("river", x.count(10), 0);
            c.due("dug", x.count(11), 0);
            c.due("who lives", x.count(9), 1);
        }
    }

    private static void promise16DewInEachSixthHour() {
        SaltArmy x = Checks.land("p;pk1;cg20;cp1g20");
        int left = 20;
        for (int hour = 1; hour <= 25; hour++) {
            c.due("hour", x.hour(0), hour);
            left -= hour % 6 == 0 ? 1 : 0;
            c.due("grains in hour " + hour, Checks.grains(x, 0), left);
            c.due("under a roof", Checks.grains(x, 1), 20);
            c.due("lost", x.log(0, 1), hour % 6 == 0 ? 1 : 0);
        }
        c.due("on the ground", x.spot(0, 4), 4);
    }

    private static void promise16DewOnWays() {
        SaltArmy x = Checks.land("pk1;pk1;p;wt6;wb2t7;cg20;cg20;cg20q3");
        x.hour(0);
        x.march(1, 1);
        x.march(2, 2);
        for (int i = 0; i < 5; i++) {
            x.hour(0);
        }
        c.due("there", Checks.grains(x, 0), 20);
        c.due("on a way from a roof to a roof", Checks.grains(x, 1), 19);
        c.due("on the ground of that it goes to", x.spot(1, 4), 1);
        c.due("on a way", Checks.grains(x, 2), 19);
        c.due("on the ground of that it goes to", x.spot(2, 4), 1);
        SaltArmy comes = Checks.land("p;pk1;wt6;cg20");
        comes.march(0, 1);
        for (int i = 0; i < 6; i++) {
            comes.hour(0);
        }
        c.due("who comes under a roof in the sixth hour", Checks.grains(comes, 0), 20);
    }

    private static void promise16TheLastGrainByDew() {
        for (int grains = 1; grains <= 2; grains++) {
            SaltArmy x = Checks.land("p;p;cq7g" + grains);
            for (int i = 0; i < 6; i++) {
                x.hour(0);
            }
            c.due("grains", Checks.grains(x, 0), grains - 1);
            c.due("known on the ground", x.spot(0, 5), grains == 1 ? 7 : 0);
            c.due("gone", x.log(0, 2), grains == 1 ? 1 : 0);
            c.due("who lives", x.count(9), grains - 1);
        }
    }

    private static void promise16AllOfOneHour() {
        // Rain 5, ford 4, bucket 5, dew 1: with 16 one is left, with 15 none.
        for (int grains = 14; grains <= 16; grains++) {
            SaltArmy x = Checks.land("p;p;wt6f4;cq2g" + grains + ";fp1");
            x.march(0, 1);
            for (int i = 0; i < 5; i++) {
                x.hour(0);
            }
            x.hour(2);
            c.due("grains", Checks.grains(x, 0), grains - Math.min(grains, 15));
            c.due("lost", x.log(0, 1), Math.min(grains, 15));
            c.due("river", x.count(10), 4);
            c.due("ground", x.spot(1, 4), Math.min(grains, 15) - 4);
            c.due("all", x.count(12), grains);
            c.due("gone", x.log(0, 2), grains > 15 ? 0 : 1);
        }
    }

    private static void promise16OneThatIsGoneLosesNothingMore() {
        SaltArmy x = Checks.land("p;p;wf9;cg5q1;cp1");
        x.hour(1);
        for (int i = 0; i < 12; i++) {
            x.hour(1);
        }
        c.due("ground", x.spot(0, 4), 5);
        c.due("lost", x.log(0, 1), 0);
        c.due("gone", x.log(0, 2), 0);
        c.due("all", x.count(12), 55);
    }

    private static void promise16WhatSeveralKnewLiesTogether() {
        SaltArmy x = Checks.land("p;p;cg1q1;cg1q4;cg1q4;cp1g1q8");
        x.hour(3);
        c.due("known at 0", x.spot(0, 5), 5);
        c.due("known at 1", x.spot(1, 5), 8);
        c.due("gone", x.log(0, 2), 4);
        c.due("hours go on", x.hour(3), 2);
    }

    // ---- war

    private static void promise17OutOfBounds() {
        int[] hours = {LOW, -1, 0, 49, 50, 100, HIGH};
        for (int n : hours) {
            c.refused("war of " + n, Scenes::busy, x -> x.war(n, 7L), NONE);
        }
    }

    private static void promise17OneTo48Hours() {
        for (int n = 1; n <= 48; n++) {
            SaltArmy x = Checks.land("p;pk1;cp1");
            c.due("war of " + n, x.war(n, n), n);
            c.due("hour", x.count(8), n);
            c.due("log", x.count(16), n);
            c.due("acts", x.count(15), Math.min(40, n));
        }
        SaltArmy x = Checks.land("p;pk1;cp1");
        c.due("war", x.war(48, 1), 48);
        c.due("war on", x.war(48, 1), 96);
        c.due("log", x.count(16), 60);
        c.due("the same draws", x.log(0, 0), x.log(48, 0));
    }

    private static BigInteger next(BigInteger x) {
        return x.multiply(new BigInteger("6364136223846793005")).add(new BigInteger("1442695040888963407"))
            .mod(BigInteger.ONE.shiftLeft(64));
    }

    private static int draw(BigInteger x) {
        return x.shiftRight(33).mod(BigInteger.valueOf(100)).intValue();
    }

    private static void promise17TheDrawGoesRound() {
        long[] seeds = {0, 1, -1, 2, Long.MIN_VALUE, Long.MAX_VALUE, Long.MIN_VALUE + 1, 1L << 32, 1L << 33, -(1L << 33),
            6364136223846793005L, -1442695040888963407L, 123456789L};
        for (long seed : seeds) {
            SaltArmy x = Checks.land("pr50;pr25;pr99;pr1;pr75;pr33;pr66;pr0;cg99w0");
            int[] chances = {50, 25, 99, 1, 75, 33, 66, 0};
            x.war(48, seed);
            BigInteger drawn = BigInteger.valueOf(seed).mod(BigInteger.ONE.shiftLeft(64));
            for (int hour = 0; hour < 48; hour++) {
                int rains = 0;
                for (int place = 0; place < 8; place++) {
                    drawn = next(drawn);
                    rains |= draw(drawn) < chances[place] ? 1 << place : 0;
                }
                c.due("seed " + seed + " hour " + hour, x.log(47 - hour, 0), rains);
            }
        }
    }

    private static void promise17BelowRainItRains() {
        for (long seed = -40; seed < 40; seed++) {
            int first = draw(next(BigInteger.valueOf(seed).mod(BigInteger.ONE.shiftLeft(64))));
            SaltArmy at = Checks.land("pr" + first + ";pr0;c");
            at.war(1, seed);
            c.due("a draw that is rain", at.log(0, 0), 0);
            if (first < 99) {
                SaltArmy below = Checks.land("pr" + (first + 1) + ";pr0;c");
                below.war(1, seed);
                c.due("a draw below rain", below.log(0, 0), 1);
            }
        }
    }

    private static void promise17EachHourIsAnAct() {
        SaltArmy x = Checks.land("p;p;c");
        x.war(3, 5);
        c.due("acts", x.count(15), 3);
        c.due("undo", x.undo(), 2);
        c.due("hour", x.count(8), 2);
        c.due("log", x.count(16), 2);
    }

    private static void promise17AWarIsItsHours() {
        SaltArmy x = Checks.land(Scenes.LAND);
        SaltArmy y = Checks.land(Scenes.LAND);
        x.war(30, 99);
        BigInteger drawn = BigInteger.valueOf(99);
        int[] chances = {20, 50, 0, 20};
        for (int hour = 0; hour < 30; hour++) {
            int rains = 0;
            for (int place = 0; place < 4; place++) {
                drawn = next(drawn);
                rains |= draw(drawn) < chances[place] ? 1 << place : 0;
            }
            y.hour(rains);
        }
        c.due("alike", Looks.at(x).equals(Looks.at(y)), true);
    }

    // ---- undo

    private static void promise18NoneCanBeUndone() {
        c.refused("at first", () -> Checks.land(Scenes.LAND), x -> x.undo(), NONE);
        SaltArmy x = Scenes.busy();
        for (int i = 5; i >= 0; i--) {
            c.due("undo", x.undo(), i);
        }
        c.due("none", x.undo(), NONE);
        c.due("hour", x.count(8), 0);
        c.due("grains", x.count(12), 92);
        c.due("dug", x.count(11), 0);
        c.due("log", x.count(16), 0);
        c.due("ground", x.spot(0, 4) + x.spot(1, 4) + x.spot(2, 4), 0);
        c.due("buckets", x.foe(0, 1), 9);
    }

    private static SaltArmy withActs(int n) {
        SaltArmy x = Checks.land("p;p;cg99w0");
        for (int i = 0; i < n; i++) {
            x.hour(i % 4);
        }
        return x;
    }

    private static void promise18FortyCanBeUndone() {
        for (int n = 38; n <= 43; n++) {
            SaltArmy x = withActs(n);
            int acts = Math.min(40, n);
            c.due("acts of " + n, x.count(15), acts);
            for (int i = 1; i <= acts; i++) {
                c.due("undo", x.undo(), acts - i);
                c.due("hour", x.count(8), n - i);
                c.due("log", x.count(16), n - i);
            }
            c.due("none of " + n, x.undo(), NONE);
            c.due("hour", x.count(8), n - acts);
            c.due("an hour again", x.hour(0), n - acts + 1);
            c.due("one", x.count(15), 1);
        }
    }

    private static void promise18NoneOf41IsLeftToUndo() {
        SaltArmy x = withActs(41);
        for (int i = 0; i < 40; i++) {
            x.undo();
        }
        SaltArmy y = withActs(41);
        for (int i = 0; i < 40; i++) {
            y.undo();
        }
        c.due("none", x.undo(), NONE);
        c.due("nothing changed", Looks.at(x).equals(Looks.at(y)), true);
    }

    private static void promise18ARefusedActIsNone() {
        SaltArmy x = withActs(40);
        x.march(0, 1);
        x.join(0, 0);
        x.dig(0);
        x.cast(1, 0);
        x.hour(4);
        x.war(49, 1);
        c.due("acts", x.count(15), 40);
        for (int i = 39; i >= 0; i--) {
            c.due("undo", x.undo(), i);
        }
        c.due("hour 0", x.count(8), 0);
        c.due("none", x.undo(), NONE);
    }

    private static void promise18EachSortOfActIsUndone() {
        SaltArmy x = Checks.land("ps9;p;wt2;cg90;cg90q1;fb1");
        x.march(0, 1);
        c.due("march", x.undo(), 0);
        c.due("not on a way", Checks.company(x, 0, 0) + Checks.company(x, 0, 1), 0);
        x.join(0, 1);
        c.due("join", x.undo(), 0);
        c.due("two again", Checks.grains(x, 1), 90);
        c.due("knows", Checks.company(x, 1, 5), 1);
        c.due("knows", Checks.company(x, 0, 5), 0);
        c.due("nothing lies there", x.spot(0, 4), 0);
        x.dig(0);
        c.due("dig", x.undo(), 0);
        c.due("not dug", Checks.grains(x, 0) + x.count(11), 90);
        x.join(0, 1);
        x.cast(0, 3);
        c.due("cast", x.undo(), 1);
        c.due("lies there", x.spot(0, 4), 81);
        c.due("no third", Checks.company(x, 2, 0), Checks.THROWN);
        x.hour(1);
        c.due("hour", x.undo(), 1);
        c.due("bucket", x.foe(0, 1), 1);
        c.due("grains", Checks.grains(x, 0), 99);
        c.due("log", x.log(0, 0), NONE);
    }

    private static void promise18OthersStay() {
        SaltArmy x = Scenes.busy();
        c.due("undo", x.undo(), 5);
        c.due("sky", x.count(13), 2);
        c.due("streaks", x.count(14), 1);
        c.due("laws", x.count(4), 2);
        c.due("which holds", x.count(7), 1);
        c.due("orders", x.count(5), 1);
        c.due("tape", x.count(6), 5);
        c.due("image", x.back(), 1);
    }

    // ---- log

    private static void promise19NoSuchOnes() {
        int[] entries = {LOW, -2, -1, 3, 4, 59, 60, HIGH};
        for (int i : entries) {
            for (int what = 0; what < 3; what++) {
                int asked = what;
                c.refused("log " + i + " " + what, Scenes::busy, x -> x.log(i, asked), NONE);
            }
        }
        int[] whats = {LOW, -1, 3, 4, HIGH};
        for (int what : whats) {
            c.refused("log 0 " + what, Scenes::busy, x -> x.log(0, what), NONE);
            c.refused("log 2 " + what, Scenes::busy, x -> x.log(2, what), NONE);
        }
        int[][] told = {{1, 8, 1}, {1, 8, 0}, {5, 14, 0}};
        for (int i = 0; i < 3; i++) {
            for (int what = 0; what < 3; what++) {
                int entry = i;
                int asked = what;
                c.refused("log " + i + " " + what, Scenes::busy, x -> x.log(entry, asked), told[i][what]);
            }
        }
    }

    private static void promise19TheLatest60() {
        for (int n = 58; n <= 63; n++) {
            SaltArmy x = withActs(n);
            int size = Math.min(60, n);
            c.due("log of " + n, x.count(16), size);
            for (int i = 0; i < size; i++) {
                c.due("log " + i, x.log(i, 0), (n - 1 - i) % 4);
                c.due("log's losses " + i, x.log(i, 1), (n - i) % 6 == 0 ? 1 : 0);
            }
            c.due("none behind the last", x.log(size, 0), NONE);
        }
    }

    private static void promise19AFullLogIsUndone() {
        SaltArmy x = withActs(61);
        c.due("full", x.count(16), 60);
        c.due("the oldest", x.log(59, 0), 1);
        x.undo();
        c.due("still full", x.count(16), 60);
        c.due("the oldest is there again", x.log(59, 0), 0);
        c.due("the latest", x.log(0, 0), 3);
        x.undo();
        c.due("no more full", x.count(16), 59);
        c.due("the oldest", x.log(58, 0), 0);
        c.due("none behind it", x.log(59, 0), NONE);
    }

    private static void promise19AfterManyHours() {
        SaltArmy x = Checks.land("p;p;cg99w0");
        for (int i = 1; i <= 10; i++) {
            c.due("war", x.war(48, i), 48 * i);
        }
        c.due("hour", x.count(8), 480);
        c.due("log", x.count(16), 60);
        c.due("by dew", Checks.grains(x, 0), 99 - 80);
        c.due("dew in the latest", x.log(0, 1), 1);
        c.due("not ahead of it", x.log(1, 1), 0);
    }
}
