/** Promises 23 to 36: the sky, journeys, waits, ambushes, pickets, streaks, and who knows, hears, is near. */
public final class AsksTest {
    private static final Checks c = new Checks();
    private static final int NONE = SaltArmy.NONE;
    private static final int HIDDEN = SaltArmy.HIDDEN;
    private static final int WHOLE = 1000000000;

    public static void main(String[] args) {
        skies();
        journeys();
        best();
        cutParts();
        bestByLaw();
        waits();
        ambushes();
        pickets();
        stocks();
        rained();
        knows();
        hears();
        weakest();
        reach();
        c.end();
    }

    private static void skies() {
        SaltArmy x = Checks.land("p;pr50;wt9;cg50w1");
        c.due("no such place", x.sky(2, 1, true), NONE);
        c.due("no such place", x.sky(-1, 1, true), NONE);
        c.due("no such hour", x.sky(0, 0, true), NONE);
        c.due("no such hour", x.sky(0, 25, true), NONE);
        c.due("none told", x.count(13), 0);
        c.due("by rain", x.best(0, 1, 0, 0), 45500);
        c.due("last hour", x.sky(0, 24, true), 1);
        c.due("first", x.sky(1, 1, false), 2);
        c.due("dry for sure", x.best(0, 1, 0, 0), 46000);
        c.due("the latest told", x.sky(1, 1, true), 3);
        c.due("wet for sure", x.best(0, 1, 0, 0), 45000);
        c.due("elsewhere", x.sky(0, 2, true), 4);
        c.due("wet for sure", x.best(0, 1, 0, 0), 45000);
        x.hour(0);
        c.due("from when it is asked", x.best(0, 1, 0, 0), 45000);
        for (int i = 5; i <= 16; i++) {
            c.due("told", x.sky(1, i - 3, false), i);
        }
        c.due("there are 16", x.sky(1, 1, false), NONE);
        c.due("nothing was told", x.best(0, 1, 0, 0), 49000);
        SaltArmy y = Checks.land("pr0;pr0;pr0;pr0;wt9;wa1b2t9;wa2b3t9;cg50w1");
        c.due("24", y.sky(3, 24, true), 1);
        c.due("in the last hour that is told of", y.best(0, 3, 0, 0), 49000);
        c.due("elsewhere then", y.sky(2, 23, true), 2);
        c.due("elsewhere then", y.best(0, 3, 0, 0), 49000);
    }

    private static void journeys() {
        SaltArmy x = Checks.land("p;p;p;p;w;wa0b2;wa1b2;wa1b3;wa2b3;c;cp3;cg5");
        c.due("journeys", x.journeys(0, 3), 4);
        int[][] rows = {{0, 1, 2, 3}, {0, 1, 3}, {0, 2, 1, 3}, {0, 2, 3}};
        for (int i = 0; i < 3; i++) {
            c.due("the first by hours", x.best(0, 3, 2, 3 + i), rows[1][i]);
        }
        c.due("no more places", x.best(0, 3, 2, 6), HIDDEN);
        c.due("back", x.journeys(1, 0), 4);
        c.due("it is there", x.journeys(0, 0), NONE);
        c.due("no such place", x.journeys(0, 4), NONE);
        c.due("no such place", x.journeys(0, -1), NONE);
        c.due("no such company", x.journeys(3, 1), NONE);
        c.due("no such company", x.journeys(-1, 1), NONE);
        x.hour(1);
        c.due("one that is gone", x.journeys(2, 1), NONE);
        x.march(0, 1);
        c.due("one on a way", x.journeys(0, 3), NONE);
        c.due("one on a way", x.best(0, 3, 0, 0), HIDDEN);
        SaltArmy y = Checks.land("p;p;p;w;w;wa1b0;c");
        c.due("several ways are one", y.journeys(0, 1), 1);
        c.due("no way", y.journeys(0, 2), 0);
        c.due("no journey", y.best(0, 2, 0, 0), HIDDEN);
        c.due("no journey", y.waits(0, 2, 0), HIDDEN);
        c.due("no journey", y.ambush(0, 2, 0), HIDDEN);
        c.due("no journey", y.rained(0, 2, NONE), NONE);
        SaltArmy all = Checks.land("p;p;p;p;p;w;wb2;wb3;wb4;wa1b2;wa1b3;wa1b4;wa2b3;wa2b4;wa3b4;c");
        c.due("five places, each to each", all.journeys(0, 4), 16);
    }

    private static void best() {
        // By 1: one hour, wet for sure, a ford; by 2: two hours, each wet by a half; by 3: four dry hours.
        SaltArmy x = Checks.land("p;pr50;pr50;pr0;pr0;wf4;wb2t1;wb3t2;wa1b4;wa2b4;wa3b4t2;cg6w6");
        x.sky(1, 1, true);
        c.due("journeys", x.journeys(0, 4), 3);
        c.due("greatest mean", x.best(0, 4, 0, 0), 6000);
        c.due("its sure", x.best(0, 4, 0, 1), WHOLE);
        c.due("its hours", x.best(0, 4, 0, 2), 4);
        c.due("its places", x.best(0, 4, 0, 3), 0);
        c.due("its places", x.best(0, 4, 0, 4), 3);
        c.due("its places", x.best(0, 4, 0, 5), 4);
        c.due("no more", x.best(0, 4, 0, 6), HIDDEN);
        c.due("most sure", x.best(0, 4, 1, 4), 3);
        c.due("soonest, of two the first", x.best(0, 4, 2, 4), 1);
        c.due("its mean", x.best(0, 4, 2, 0), 0);
        c.due("its sure", x.best(0, 4, 2, 1), 0);
        c.due("its hours", x.best(0, 4, 2, 2), 2);
        x.sky(3, 2, true);
        c.due("greatest mean", x.best(0, 4, 0, 4), 2);
        c.due("greatest mean", x.best(0, 4, 0, 0), 3000);
        c.due("sure", x.best(0, 4, 1, 1), WHOLE / 2);
        c.due("no such sort", x.best(0, 4, 3, 0), HIDDEN);
        c.due("no such sort", x.best(0, 4, -1, 0), HIDDEN);
        c.due("no such what", x.best(0, 4, 0, -1), HIDDEN);
        c.due("no such company", x.best(1, 4, 0, 0), HIDDEN);
        c.due("no such place", x.best(0, 5, 0, 0), HIDDEN);
        c.due("it is there", x.best(0, 0, 0, 0), HIDDEN);
        c.due("nothing changed", x.count(15) + x.count(8) + x.count(10), 0);
        // The mean and the surest differ: one all or nothing, one a little for sure.
        SaltArmy y = Checks.land("p;pr40;pr0;p;wf0;wb2f9;wa1b3;wa2b3;cg12w9");
        y.sky(3, 2, false);
        c.due("mean", y.best(0, 3, 0, 4), 1);
        c.due("mean", y.best(0, 3, 0, 0), 8400);
        c.due("sure", y.best(0, 3, 1, 4), 1);
        SaltArmy z = Checks.land("p;pr40;pr0;p;wf0;wb2f9;wa1b3;wa2b3;cg12w9;cg9");
        z.sky(3, 2, false);
        z.sky(1, 1, true);
        c.due("of several the first", z.best(0, 3, 1, 4), 1);
        c.due("of several the first", z.best(0, 3, 0, 4), 1);
    }

    /** Parts of 10 to the 9, cut as they go, here reckoned by themselves. */
    private static void cutParts() {
        SaltArmy x = Checks.land("p;pr33;wt9f1;cg17w4");
        long[] parts = new long[100];
        parts[17] = WHOLE;
        for (int hour = 0; hour < 9; hour++) {
            long[] next = new long[100];
            for (int g = 0; g < 100; g++) {
                long wet = g == 0 ? 0 : parts[g] * 33 / 100;
                next[Math.max(0, g - 4)] += wet;
                next[g] += parts[g] - wet;
            }
            parts = next;
        }
        long mean = 0;
        long sure = 0;
        for (int g = 2; g < 100; g++) {
            mean += parts[g] * (g - 1);
            sure += parts[g];
        }
        c.due("mean", x.best(0, 1, 0, 0), mean / 1000000);
        c.due("sure", x.best(0, 1, 0, 1), sure);
    }

    private static void bestByLaw() {
        // In the hour t it loses t; the second hour is the first one's and one more.
        SaltArmy x = Checks.landWithLaw("p;ph3;wt2;cg50m2", "y:t+h*m");
        x.sky(1, 1, true);
        x.sky(1, 2, true);
        c.due("t goes on", x.best(0, 1, 0, 0), (50 - 6 - 7) * 1000);
        x.hour(0);
        c.due("t from the hour", x.best(0, 1, 0, 0), (50 - 7 - 8) * 1000);
        SaltArmy y = Checks.landWithLaw("pk1;pk1;wt2;cg50", "y:g/2");
        y.sky(1, 1, true);
        y.sky(1, 2, true);
        c.due("no roof on a way", y.best(0, 1, 0, 0), 13000);
    }

    private static void waits() {
        SaltArmy x = Checks.land("pk1r99;pr0;wt2;cg50w5");
        c.due("no wait", x.waits(0, 1, 0), 0);
        c.due("mean", x.waits(0, 1, 1), 50000);
        x.sky(1, 1, true);
        c.due("one hour under the roof", x.waits(0, 1, 0), 1);
        c.due("mean", x.waits(0, 1, 1), 50000);
        x.sky(1, 4, true);
        x.sky(1, 7, true);
        x.sky(1, 2, true);
        x.sky(1, 3, true);
        c.due("of several the fewest", x.waits(0, 1, 0), 4);
        for (int hour = 1; hour <= 9; hour++) {
            x.sky(1, hour, true);
        }
        c.due("a long wait", x.waits(0, 1, 0), 9);
        c.due("no such what", x.waits(0, 1, 2), HIDDEN);
        c.due("no such what", x.waits(0, 1, -1), HIDDEN);
        c.due("no such place", x.waits(0, 2, 0), HIDDEN);
        c.due("it is there", x.waits(0, 0, 0), HIDDEN);
        SaltArmy y = Checks.land("pr50;pr99;w;cg50w2");
        y.sky(1, 1, true);
        y.sky(1, 2, false);
        c.due("wet where it waits", y.waits(0, 1, 0), 1);
        c.due("by a half", y.waits(0, 1, 1), 49000);
        y.sky(0, 1, false);
        c.due("dry by the sky", y.waits(0, 1, 1), 50000);
        y.sky(0, 1, true);
        c.due("wet as on the way: no wait", y.waits(0, 1, 0), 0);
        c.due("wet as on the way", y.waits(0, 1, 1), 48000);
        // By the journey with the fewest hours, not the best one.
        SaltArmy z = Checks.land("pk1;p;pr0;pk1;wf9t1;wa1b3t1;wb2t2;wa2b3t2;cg20");
        z.sky(1, 1, false);
        z.sky(3, 2, false);
        c.due("by the fewest hours", z.waits(0, 3, 1), 11000);
        SaltArmy law = Checks.landWithLaw("pk1;p;w;cg50", "y:20-t*3");
        for (int hour = 1; hour <= 13; hour++) {
            law.sky(1, hour, true);
        }
        c.due("less by the hour", law.waits(0, 1, 0), 7);
        c.due("less by the hour", law.waits(0, 1, 1), 50000);
        SaltArmy twelve = Checks.landWithLaw("pk1;p;w;cg50", "y:20-t");
        for (int hour = 1; hour <= 13; hour++) {
            twelve.sky(1, hour, true);
        }
        c.due("12 at most", twelve.waits(0, 1, 0), 12);
        c.due("12 at most", twelve.waits(0, 1, 1), 42000);
    }

    private static void ambushes() {
        // By 1 there is more behind, yet with less at a time the way by 2 loses more.
        SaltArmy x = Checks.land("pr0;pr0;pr0;pr0;wf3;wb2f1;wa1b3f1;wa2b3f9;cg30");
        c.due("journeys", x.journeys(0, 3), 2);
        c.due("mean", x.ambush(0, 3, 0), 16000);
        c.due("worst, of several the lowest", x.ambush(0, 3, 1), 1);
        c.due("places", x.ambush(0, 3, 2), 0);
        c.due("places", x.ambush(0, 3, 3), 1);
        c.due("places", x.ambush(0, 3, 4), 3);
        c.due("no more", x.ambush(0, 3, 5), HIDDEN);
        c.due("no such what", x.ambush(0, 3, -1), HIDDEN);
        c.due("no such place", x.ambush(0, 4, 0), HIDDEN);
        c.due("it is there", x.ambush(0, 0, 0), HIDDEN);
        c.due("no such company", x.ambush(1, 3, 0), HIDDEN);
        // The lowest place, not the first one on the journey.
        SaltArmy low = Checks.land("p;pr0;pr0;wb2;wa2b1;cg30");
        c.due("lowest", low.ambush(0, 1, 1), 1);
        c.due("mean", low.ambush(0, 1, 0), 20000);
        SaltArmy few = Checks.land("p;pr0;wf9;cg9");
        c.due("it makes no less", few.ambush(0, 1, 1), NONE);
        c.due("none", few.ambush(0, 1, 0), 0);
        // Who has much loses much: the ambush makes it more, but at the end.
        SaltArmy law = Checks.landWithLaw("p;p;p;wa0b1;wa1b2;cg40", "y:g>30?35;y:0");
        law.sky(1, 1, false);
        law.sky(2, 2, true);
        c.due("the mean without one is least", law.ambush(0, 2, 0), 0);
        c.due("worst at the end", law.ambush(0, 2, 1), 2);
        SaltArmy more = Checks.landWithLaw("p;p;p;wa0b1;wa1b2f9;cg40", "y:g>30?31;y:0");
        more.sky(1, 1, false);
        more.sky(2, 2, true);
        c.due("it makes no less", more.ambush(0, 2, 1), NONE);
        c.due("none: 40 - 31 - 9", more.ambush(0, 2, 0), 0);
        // The journey with the greatest mean is not the best one against an ambush.
        SaltArmy two = Checks.landWithLaw("pr0;pr0;p;pr0;w;wb2;wa1b3;wa2b3f2;cg20", "y:g<20?9;y:0");
        two.sky(3, 2, true);
        two.sky(2, 1, false);
        c.due("of several the first", two.ambush(0, 3, 3), 1);
        two.sky(1, 1, false);
        c.due("poured ahead of the rain", two.ambush(0, 3, 0), 1000);
        c.due("worst", two.ambush(0, 3, 1), 1);
    }

    private static void pickets() {
        SaltArmy x = Checks.land("p;p;w;cg20;cg10;cp1g12");
        c.due("out of bounds", x.pickets(0, 1, 0, NONE), NONE);
        c.due("out of bounds", x.pickets(7, 1, 0, NONE), NONE);
        c.due("out of bounds", x.pickets(1, 0, 0, NONE), NONE);
        c.due("out of bounds", x.pickets(1, 10, 0, NONE), NONE);
        c.due("out of bounds", x.pickets(1, 1, -1, NONE), NONE);
        c.due("out of bounds", x.pickets(1, 1, 100, NONE), NONE);
        c.due("out of bounds", x.pickets(1, 1, 0, -2), NONE);
        c.due("three", x.pickets(1, 1, 0, NONE), 3);
        c.due("all rows", x.pickets(6, 1, 0, NONE), 729);
        c.due("first", x.pickets(6, 1, 0, 0), 0);
        c.due("second", x.pickets(6, 1, 0, 1), 1);
        c.due("fourth", x.pickets(6, 1, 0, 3), 10);
        c.due("last", x.pickets(6, 1, 0, 728), 222222);
        c.due("no such one", x.pickets(6, 1, 0, 729), NONE);
        c.due("one who has fewer can't stand", x.pickets(2, 9, 0, NONE), 9 - 2);
        c.due("rows", x.pickets(2, 9, 0, 0), 0);
        c.due("rows", x.pickets(2, 9, 0, 3), 10);
        c.due("rows", x.pickets(2, 9, 0, 4), 12);
        c.due("rows", x.pickets(2, 9, 0, 6), 21);
        c.due("nobody below", x.pickets(1, 1, 10, NONE), 2);
        c.due("nobody below", x.pickets(1, 1, 10, 1), 2);
        c.due("who does not stand, too", x.pickets(1, 1, 11, NONE), 0);
        c.due("no such one", x.pickets(1, 1, 11, 0), NONE);
        x.march(2, 0);
        c.due("on a way, too", x.pickets(1, 1, 0, NONE), 3);
        x.join(0, 1);
        c.due("not one that is gone", x.pickets(1, 1, 0, NONE), 2);
        c.due("not one that is gone", x.pickets(1, 1, 0, 1), 2);
        SaltArmy y = Checks.land("p;p;cg6;cg9;cg3");
        for (int n = 1; n <= 6; n++) {
            for (int bound = 0; bound < 8; bound++) {
                c.due("rows of " + n + " by " + bound, y.pickets(n, 2, bound, NONE), rows(n, 2, bound, new int[] {6, 9, 3}));
            }
        }
        c.due("exactly all it has", y.pickets(3, 2, 0, 0), 0);
    }

    private static int rows(int n, int loss, int bound, int[] grains) {
        if (n == 0) {
            return 1;
        }
        int found = 0;
        for (int i = 0; i < grains.length; i++) {
            int[] then = grains.clone();
            then[i] -= loss;
            boolean holds = then[i] >= 0;
            for (int g : then) {
                holds &= g >= bound;
            }
            found += holds ? rows(n - 1, loss, bound, then) : 0;
        }
        return found;
    }

    private static void stocks() {
        SaltArmy x = Checks.land("p;p;w;cg20;cg30");
        c.due("out of bounds", x.stock(0, 1), NONE);
        c.due("out of bounds", x.stock(7, 1), NONE);
        c.due("out of bounds", x.stock(1, 0), NONE);
        c.due("out of bounds", x.stock(1, 10), NONE);
        c.due("one night", x.stock(1, 5), 21);
        c.due("two nights", x.stock(2, 5), 21);
        c.due("three nights", x.stock(3, 5), 16);
        c.due("six nights", x.stock(6, 5), 11);
        c.due("six nights", x.stock(6, 9), 0);
        SaltArmy y = Checks.land("p;p;cg99;cg99");
        c.due("much", y.stock(1, 1), 99);
        SaltArmy z = Checks.land("p;p;cg3w9");
        c.due("none for 0", z.stock(2, 2), 0);
    }

    private static void rained() {
        // Two hours to 1, a ford, two to 2: 20 grains, 4 each time.
        SaltArmy x = Checks.land("p;p;p;p;wt2f3;wa1b2t2;cg20w4;cp1");
        c.due("any", x.rained(0, 2, NONE), 16);
        c.due("any", x.rained(0, 2, 5), 5);
        c.due("last", x.rained(0, 2, 15), 15);
        c.due("no such one", x.rained(0, 2, 16), NONE);
        c.due("no such one", x.rained(0, 2, -2), NONE);
        c.due("no such place", x.streak(4, 0), NONE);
        c.due("no such place", x.streak(-1, 0), NONE);
        c.due("out of bounds", x.streak(0, 100), NONE);
        c.due("out of bounds", x.streak(0, -1), NONE);
        c.due("none", x.count(14), 0);
        c.due("first", x.streak(1, 4), 1);
        c.due("one of two", x.rained(0, 2, NONE), 8);
        int[] sets = {1, 2, 5, 6, 9, 10, 13, 14};
        for (int i = 0; i < sets.length; i++) {
            c.due("sets", x.rained(0, 2, i), sets[i]);
        }
        c.due("where it did not come to: nothing", x.streak(3, 0), 2);
        c.due("where it was: nothing", x.streak(0, 0), 3);
        c.due("sets", x.rained(0, 2, NONE), 8);
        x.streak(2, 8);
        c.due("both", x.rained(0, 2, NONE), 2);
        c.due("both", x.rained(0, 2, 1), 14);
        x.streak(2, 8);
        c.due("said twice", x.rained(0, 2, NONE), 2);
        x.streak(2, 4);
        c.due("never both", x.rained(0, 2, NONE), 0);
        c.due("never both", x.rained(0, 2, 0), NONE);
        c.due("seven", x.streak(0, 0), 7);
        c.due("eight", x.streak(0, 99), 8);
        c.due("there are eight", x.streak(0, 0), NONE);
        SaltArmy away = Checks.land("p;p;p;w;cg20");
        away.streak(2, 1);
        c.due("lay where it did not come to", away.rained(0, 1, NONE), 0);
        SaltArmy few = Checks.land("p;p;p;wt3f1;wa1b2;cg10w4");
        few.streak(1, 10);
        c.due("no more than it had", few.rained(0, 2, NONE), 2);
        c.due("all three, then none is left", few.rained(0, 2, 1), 15);
        few.streak(2, 0);
        c.due("nothing to lose then", few.rained(0, 2, NONE), 2);
        SaltArmy ford = Checks.land("p;p;p;wf3;wa1b2;cg10w8");
        ford.streak(2, 7);
        c.due("behind the ford", ford.rained(0, 2, NONE), 1);
        c.due("behind the ford", ford.rained(0, 2, 0), 2);
        longRained();
    }

    private static void longRained() {
        SaltArmy x = Checks.land("p;p;p;wt9;wa1b2t3;cg90w3");
        c.due("twelve hours", x.rained(0, 2, NONE), 4096);
        x.streak(1, 12);
        x.streak(2, 6);
        c.due("four of nine and two of three", x.rained(0, 2, NONE), 126 * 3);
        c.due("the first", x.rained(0, 2, 0), 15 + (3 << 9));
        SaltArmy y = Checks.land("p;p;p;wt9;wa1b2t4;c");
        c.due("thirteen hours", y.rained(0, 2, NONE), NONE);
        c.due("nine hours", y.rained(0, 1, NONE), 512);
        SaltArmy z = Checks.land("p;p;p;wt9;wa1b2t4;wa0b2t9;c");
        c.due("the fewest hours", z.rained(0, 2, NONE), 512);
        SaltArmy law = Checks.landWithLaw("p;p;wt3;cg90", "y:t+1");
        law.streak(1, 3);
        c.due("by the hour", law.rained(0, 1, NONE), 2);
        c.due("by the hour", law.rained(0, 1, 0), 3);
        c.due("by the hour", law.rained(0, 1, 1), 4);
        c.due("where it is", law.rained(0, 0, NONE), NONE);
        c.due("no such company", law.rained(1, 1, NONE), NONE);
    }

    private static void knows() {
        SaltArmy x = Checks.land("p;p;w;cg5q3;cq1;cp1q9");
        c.due("no such thing", x.knows(-1), NONE);
        c.due("no such thing", x.knows(4), NONE);
        c.due("thing 0", x.knows(0), 7);
        c.due("thing 1", x.knows(1), 1);
        c.due("thing 2", x.knows(2), 0);
        c.due("thing 3", x.knows(3), 4);
        x.hour(1);
        c.due("thing 0", x.knows(0), 6);
        c.due("thing 1", x.knows(1), 0);
    }

    private static void hears() {
        SaltArmy x = Checks.land("p;p;p;p;p;w;wa1b2t9;wa2b3;cq1;cp2q2;cp3q4;cp4g5;cp4");
        c.due("out of bounds", x.hears(-1), NONE);
        c.due("out of bounds", x.hears(8), NONE);
        c.due("each by himself", x.hears(0), 0);
        c.due("two of three", x.hears(1), 0);
        c.due("from one to the next", x.hears(2), 3);
        c.due("never apart from ways", x.hears(7), 3);
        x.march(0, 1);
        c.due("where it goes to", x.hears(1), 3);
        SaltArmy y = Checks.land("p;p;cq3;cp1q3;cp1q1;cg5q8");
        c.due("all alike", y.hears(0), 2);
        y.hour(1);
        y.hour(0);
        c.due("of those who live", y.hears(0), 3);
        SaltArmy z = Checks.land("p;p;c;c;cp1");
        c.due("nothing is known: all know it", z.hears(0), 3);
        SaltArmy gone = Checks.land("p;p;cg1q1;cp1g1q2");
        gone.hour(3);
        c.due("nobody lives", gone.hears(7), 0);
    }

    private static void weakest() {
        SaltArmy x = Checks.land("p;p;cg9;cg5;cg5");
        c.due("weakest", x.weakest(), 1);
        x.hour(1);
        c.due("who lives", x.weakest(), 0);
        x.hour(1);
        c.due("nobody", x.weakest(), NONE);
    }

    private static void reach() {
        SaltArmy x = Checks.land("p;p;pk1;p;p;wt9;wa1b0t2;wa1b2t3;wa0b2t6;wa3b2t1;c");
        c.due("not by the lowest alone", x.reach(0, 1), 2);
        c.due("by another place", x.reach(0, 2), 5);
        c.due("to the end", x.reach(0, 3), 6);
        c.due("back", x.reach(3, 0), 6);
        c.due("where it is", x.reach(1, 1), 0);
        c.due("never", x.reach(0, 4), NONE);
        c.due("no such place", x.reach(0, 5), NONE);
        c.due("no such place", x.reach(-1, 0), NONE);
        c.due("no such place", x.reach(5, 0), NONE);
        c.due("no such place", x.reach(0, -1), NONE);
        c.due("dry", x.dry(0), 5);
        c.due("dry", x.dry(2), 0);
        c.due("dry", x.dry(3), 1);
        c.due("never", x.dry(4), NONE);
        c.due("no such place", x.dry(5), NONE);
        c.due("no such place", x.dry(-1), NONE);
        SaltArmy y = Checks.land("p;p;w;c");
        c.due("no roof", y.dry(0), NONE);
    }
}
