/** Boundary cases of sky (promise 23), best (24), journeys (25), waits (26) and ambush (27). */
public final class JourneyBoundsTest {
    private static final Checks c = new Checks();
    private static final int NONE = SaltArmy.NONE;
    private static final int HIDDEN = SaltArmy.HIDDEN;
    private static final int LOW = Integer.MIN_VALUE;
    private static final int HIGH = Integer.MAX_VALUE;
    private static final int WHOLE = 1000000000;

    public static void main(String[] args) {
        c.runAll(JourneyBoundsTest.class);
    }

    // ---- sky

    private static void promise23NoSuchPlace() {
        int[] places = {LOW, -1, 4, 5, 7, 8, HIGH};
        for (int place : places) {
            c.refused("sky of " + place, Scenes::busy, x -> x.sky(place, 1, true), NONE);
            c.refused("sky of " + place, Scenes::busy, x -> x.sky(place, 24, false), NONE);
        }
        c.due("the last place", Scenes.busy().sky(3, 1, true), 3);
        c.due("the eighth place", Checks.land("p;p;p;p;p;p;p;p;c").sky(7, 1, true), 1);
    }

    private static void promise23HoursFrom1To24() {
        int[] hours = {LOW, -1, 0, 25, 26, HIGH};
        for (int hour : hours) {
            c.refused("sky in hour " + hour, Scenes::busy, x -> x.sky(1, hour, true), NONE);
        }
        c.due("the first hour", Scenes.busy().sky(1, 1, true), 3);
        c.due("the last hour", Scenes.busy().sky(1, 24, true), 3);
    }

    private static SaltArmy withSkies(int n) {
        SaltArmy x = Checks.land("pr0;pr0;wt9;cg50w1");
        for (int i = 1; i <= n; i++) {
            c.due("sky " + i, x.sky(1, i, i % 2 == 0), i);
        }
        return x;
    }

    private static void promise23SixteenNotSeventeen() {
        c.due("the sixteenth", withSkies(15).sky(1, 1, true), 16);
        c.refused("a seventeenth", () -> withSkies(16), x -> x.sky(1, 1, true), NONE);
        c.refused("a seventeenth, told already", () -> withSkies(16), x -> x.sky(1, 2, true), NONE);
        SaltArmy x = withSkies(16);
        c.due("mean", x.best(0, 1, 0, 0), 46000);
        c.due("refused", x.sky(1, 1, true), NONE);
        c.due("still", x.best(0, 1, 0, 0), 46000);
        c.due("count", x.count(13), 16);
    }

    private static void promise23OfTwoTheLatestTold() {
        SaltArmy x = Checks.land("p;pr50;w;cg50w2");
        c.due("by rain", x.best(0, 1, 0, 0), 49000);
        c.due("wet", x.sky(1, 1, true), 1);
        c.due("wet", x.best(0, 1, 0, 0), 48000);
        c.due("dry", x.sky(1, 1, false), 2);
        c.due("dry", x.best(0, 1, 0, 0), 50000);
        c.due("wet again", x.sky(1, 1, true), 3);
        c.due("wet again", x.best(0, 1, 0, 0), 48000);
    }

    /** A way of nine hours, one of nine, one of nine: the sky reaches to the sixth of the third. */
    private static void promise23TheSkyOfEachHour() {
        for (int hour = 1; hour <= 24; hour++) {
            SaltArmy x = Checks.land("pr0;pr0;pr0;pr0;wt9;wa1b2t9;wa2b3t9;cg50w1");
            int there = 1 + (hour - 1) / 9;
            for (int place = 0; place < 4; place++) {
                if (place != there) {
                    x.sky(place, hour, true);
                }
            }
            c.due("elsewhere in hour " + hour, x.best(0, 3, 0, 0), 50000);
            x.sky(there, hour, true);
            c.due("there in hour " + hour, x.best(0, 3, 0, 0), 49000);
        }
    }

    private static void promise23BehindThe24thHourByRain() {
        SaltArmy x = Checks.land("pr0;pr0;pr0;pr50;wt9;wa1b2t9;wa2b3t7;cg50w2");
        c.due("seven hours by rain", x.best(0, 3, 0, 0), 43000);
        x.sky(3, 24, true);
        c.due("the 24th wet, the 25th by rain", x.best(0, 3, 0, 0), 42000);
        x.sky(3, 24, false);
        c.due("the 24th dry, the 25th by rain", x.best(0, 3, 0, 0), 44000);
    }

    private static void promise23TheSkyIsNoRainOfHours() {
        SaltArmy x = Checks.land("p;p;c");
        x.sky(0, 1, true);
        x.hour(0);
        c.due("an hour without rain", Checks.grains(x, 0), 50);
        c.due("the sky stays", x.count(13), 1);
    }

    // ---- best

    private static void promise24NoSuchOnes() {
        int[] companies = {LOW, -1, 3, 5, 6, 8, HIGH};
        for (int company : companies) {
            c.refused("best of " + company, Scenes::busy, x -> x.best(company, 1, 0, 0), HIDDEN);
        }
        int[] places = {LOW, -1, 4, 5, 7, 8, HIGH};
        for (int place : places) {
            c.refused("best to " + place, Scenes::busy, x -> x.best(0, place, 0, 0), HIDDEN);
        }
        int[] sorts = {LOW, -1, 3, 4, HIGH};
        for (int sort : sorts) {
            for (int what = 0; what < 4; what++) {
                int asked = what;
                c.refused("best of sort " + sort, Scenes::busy, x -> x.best(0, 1, sort, asked), HIDDEN);
            }
        }
        int[] whats = {LOW, -2, -1, 100, HIGH};
        for (int what : whats) {
            c.refused("best's " + what, Scenes::busy, x -> x.best(0, 1, 0, what), HIDDEN);
        }
    }

    private static void promise24NoJourney() {
        for (int sort = 0; sort < 3; sort++) {
            for (int what = 0; what < 5; what++) {
                int asked = what;
                int by = sort;
                c.refused("no way there", Scenes::busy, x -> x.best(0, 3, by, asked), HIDDEN);
                c.refused("it is there", Scenes::busy, x -> x.best(0, 0, by, asked), HIDDEN);
                c.refused("one on a way", Scenes::busy, x -> x.best(1, 0, by, asked), HIDDEN);
                c.refused("one that is gone", Scenes::busy, x -> x.best(3, 1, by, asked), HIDDEN);
            }
        }
    }

    private static void promise24ThePlacesOfAJourney() {
        SaltArmy x = Checks.land("p;p;p;p;p;p;p;p;w;wa1b2;wa2b3;wa3b4;wa4b5;wa5b6;wa6b7;c");
        for (int to = 1; to < 8; to++) {
            for (int i = 0; i < 10; i++) {
                c.due("place " + i + " to " + to, x.best(0, to, i % 3, 3 + i), i <= to ? i : HIDDEN);
            }
            c.due("hours to " + to, x.best(0, to, 0, 2), to);
        }
        c.due("far behind the last", x.best(0, 7, 0, HIGH), HIDDEN);
    }

    private static void promise24SureAndMeanFromNoneToAll() {
        SaltArmy dry = Checks.land("p;pr0;w;cg99");
        c.due("the greatest mean", dry.best(0, 1, 0, 0), 99000);
        c.due("all sure", dry.best(0, 1, 0, 1), WHOLE);
        SaltArmy ford = Checks.land("p;pr0;wf9;cg9");
        c.due("no mean", ford.best(0, 1, 0, 0), 0);
        c.due("none sure", ford.best(0, 1, 0, 1), 0);
        c.due("hours", ford.best(0, 1, 0, 2), 1);
        SaltArmy one = Checks.land("p;pr0;wf9;cg10");
        c.due("one grain", one.best(0, 1, 0, 0), 1000);
        c.due("sure", one.best(0, 1, 0, 1), WHOLE);
        SaltArmy wet = Checks.land("p;pr99;w;cg5");
        c.due("by 99", wet.best(0, 1, 0, 1), WHOLE / 100);
        c.due("by 99", wet.best(0, 1, 0, 0), 50);
        wet.sky(1, 1, true);
        c.due("for sure", wet.best(0, 1, 0, 1), 0);
        SaltArmy six = Checks.land("p;pr99;w;cg6");
        c.due("one is left for sure", six.best(0, 1, 0, 1), WHOLE);
        c.due("by 99", six.best(0, 1, 0, 0), 990 + 60);
    }

    /** In ten hours of 99 of 100 the dry part is cut below one: 10 to the 9 by 100, nine times less. */
    private static void promise24PartsAreCut() {
        SaltArmy x = Checks.land("p;pr99;pr99;wt4;wa1b2t1;cg1w1");
        c.due("four hours", x.best(0, 1, 0, 1), 10);
        c.due("five hours: of ten parts nine are wet", x.best(0, 2, 0, 1), 1);
        SaltArmy y = Checks.land("p;pr99;pr99;wt5;wa1b2t1;cg1w1");
        c.due("six hours: of one part none is wet", y.best(0, 2, 0, 1), 1);
        SaltArmy z = Checks.land("p;pr1;wt9;cg50w1");
        long[] parts = new long[60];
        parts[50] = WHOLE;
        for (int hour = 0; hour < 9; hour++) {
            for (int g = 1; g < 60; g++) {
                long wet = parts[g] / 100;
                parts[g] -= wet;
                parts[g - 1] += wet;
            }
        }
        long mean = 0;
        for (int g = 1; g < 60; g++) {
            mean += parts[g] * g;
        }
        c.due("mean, cut", z.best(0, 1, 0, 0), mean / 1000000);
    }

    /** Of ten parts that are left one is wet at 10 of 100, none at 9. */
    private static void promise24APartOfOne() {
        c.due("one of ten", Checks.land("p;pr99;pr10;wt4;wa1b2;cg1w1").best(0, 2, 0, 1), 9);
        c.due("none of ten", Checks.land("p;pr99;pr9;wt4;wa1b2;cg1w1").best(0, 2, 0, 1), 10);
    }

    private static int meanBy(String law, int company) {
        SaltArmy x = Checks.landWithLaw("ph1k1;ph7;wt3;cg50w2m1;cg40w8m3", law);
        for (int hour = 1; hour <= 3; hour++) {
            x.sky(1, hour, true);
        }
        return x.best(company, 1, 0, 0);
    }

    private static void promise24TheLettersOnAJourney() {
        c.due("g", meanBy("y:g/10", 0), 50000 - 5000 - 4000 - 4000);
        c.due("g of the other", meanBy("y:g/10", 1), 40000 - 4000 - 3000 - 3000);
        c.due("w", meanBy("y:w", 0), 50000 - 6000);
        c.due("w of the other", meanBy("y:w", 1), 40000 - 24000);
        c.due("h of the place it goes to", meanBy("y:h", 0), 50000 - 21000);
        c.due("m", meanBy("y:m", 0), 50000 - 3000);
        c.due("m of the other", meanBy("y:m", 1), 40000 - 9000);
        c.due("t, 0 in the first hour", meanBy("y:t", 0), 50000 - 3000);
    }

    /** By the hour in which it is asked: t goes on from there, the sky begins anew. */
    private static void promise24TheHourInWhichItIsAsked() {
        for (int gone = 0; gone <= 8; gone++) {
            SaltArmy x = Checks.landWithLaw("pk1r0;pk1r0;wt2;cg99", "y:t");
            x.sky(1, 1, true);
            x.sky(1, 2, true);
            x.streak(1, gone + 1);
            for (int hour = 0; hour < gone; hour++) {
                x.hour(0);
            }
            c.due("mean in hour " + gone, x.best(0, 1, 0, 0), 99000 - (gone + gone + 1) * 1000);
            c.due("waits in hour " + gone, x.waits(0, 1, 0), 2);
            c.due("mean of waiting in hour " + gone, x.waits(0, 1, 1), 99000);
            c.due("ambush in hour " + gone, x.ambush(0, 1, 0), 89000 - (gone + gone + 1) * 1000);
            c.due("sets in hour " + gone, x.rained(0, 1, NONE), gone == 0 ? 2 : 1);
            c.due("the second hour alone", x.rained(0, 1, 0), 2);
        }
    }

    private static void promise24OfSeveralTheFirst() {
        SaltArmy x = Checks.land("p;pr0;pr0;pr0;wb2;wb1;wa2b3;wa1b3;c");
        for (int sort = 0; sort < 3; sort++) {
            c.due("by 1, though its ways are the higher ones", x.best(0, 3, sort, 4), 1);
        }
        SaltArmy y = Checks.land("p;pr0;pr0;pr0;wb1f1;wb2;wa1b3;wa2b3;wb3t3f1;c");
        c.due("the greatest mean", y.best(0, 3, 0, 4), 2);
        c.due("the first of the surest", y.best(0, 3, 1, 4), 1);
        c.due("the first of the soonest", y.best(0, 3, 2, 4), 1);
        SaltArmy z = Checks.land("p;pr0;pr0;pr0;wb1f1;wb2;wa1b3;wa2b3;wb3t1f9;cg9");
        c.due("the soonest", z.best(0, 3, 2, 2), 1);
        c.due("the soonest is straight", z.best(0, 3, 2, 4), 3);
        c.due("of which none is sure", z.best(0, 3, 2, 1), 0);
    }

    private static void promise24LongestAndRichest() {
        SaltArmy x = Checks.land("p;pr0;pr0;pr0;pr0;pr0;pr0;pr0;wt9;wa1b2t9;wa2b3t9;wa3b4t9;wa4b5t9;wa5b6t9;wa6b7t9f9;cg99");
        c.due("63 hours", x.best(0, 7, 0, 2), 63);
        c.due("mean", x.best(0, 7, 0, 0), 90000);
        c.due("the eighth place", x.best(0, 7, 0, 10), 7);
        c.due("no ninth", x.best(0, 7, 0, 11), HIDDEN);
    }

    private static void promise24NeitherFoesNorDewNorAct() {
        SaltArmy x = Checks.land("pr0;pr0;pr0;wt6;wa1b2t6;cg50;cg50;fp1;fp2");
        c.due("mean", x.best(0, 2, 0, 0), 50000);
        c.refused("best", Scenes::busy, y -> y.best(0, 1, 0, 2), 10);
        c.refused("best", Scenes::busy, y -> y.best(0, 1, 2, 2), 2);
    }

    // ---- journeys

    private static void promise25NoSuchOnes() {
        int[] companies = {LOW, -1, 1, 3, 5, 6, 8, HIGH};
        for (int company : companies) {
            c.refused("journeys of " + company, Scenes::busy, x -> x.journeys(company, 1), NONE);
        }
        int[] places = {LOW, -1, 4, 5, 7, 8, HIGH};
        for (int place : places) {
            c.refused("journeys to " + place, Scenes::busy, x -> x.journeys(0, place), NONE);
        }
        c.refused("it is there", Scenes::busy, x -> x.journeys(0, 0), NONE);
        c.refused("two", Scenes::busy, x -> x.journeys(0, 1), 2);
        c.refused("none", Scenes::busy, x -> x.journeys(0, 3), 0);
    }

    private static void promise25OneThatIsThereAgain() {
        SaltArmy x = Scenes.busy();
        c.due("on a way", x.journeys(1, 0), NONE);
        x.hour(0);
        c.due("there", x.journeys(1, 0), 2);
        c.due("it is there", x.journeys(1, 2), NONE);
    }

    private static void promise25SeveralWaysAreOneJourney() {
        c.due("twelve ways", Checks.land("p;p;w;w;w;w;w;w;w;w;w;w;w;w;c").journeys(0, 1), 1);
        c.due("no way", Checks.land("p;p;c").journeys(0, 1), 0);
    }

    /** More than this no twelve ways make, as far as a search found; so there are never 200. */
    private static void promise25ManyJourneys() {
        SaltArmy x = Checks.land("p;p;p;p;p;p;p;wa2b6;wa1b5;wa0b2;wa0b1;wa1b2;wa4b6;wa1b4;wa1b6;wa4b5;wa0b5;wa2b4;wa2b5;c");
        c.due("journeys", x.journeys(0, 6), 37);
        c.due("the first goes on with 1", x.best(0, 6, 2, 4), 1);
    }

    private static void promise25NoPlaceTwice() {
        SaltArmy x = Checks.land("p;p;p;w;wa1b2;wa2b0;c");
        c.due("round and straight", x.journeys(0, 1), 2);
        SaltArmy y = Checks.land("p;p;p;p;w;wa1b2;wa2b0;wa2b3;c");
        c.due("a dead end", y.journeys(0, 1), 2);
    }

    // ---- waits

    private static void promise26NoSuchOnes() {
        int[] companies = {LOW, -1, 1, 3, 5, 6, 8, HIGH};
        for (int company : companies) {
            c.refused("waits of " + company, Scenes::busy, x -> x.waits(company, 1, 0), HIDDEN);
        }
        int[] places = {LOW, -1, 0, 3, 4, 5, 7, 8, HIGH};
        for (int place : places) {
            c.refused("waits to " + place, Scenes::busy, x -> x.waits(0, place, 0), HIDDEN);
            c.refused("waits to " + place, Scenes::busy, x -> x.waits(0, place, 1), HIDDEN);
        }
        int[] whats = {LOW, -1, 2, 3, HIGH};
        for (int what : whats) {
            c.refused("waits' " + what, Scenes::busy, x -> x.waits(0, 1, what), HIDDEN);
        }
        // The second hour is wet for sure on the way: behind it, with an hour of 20 of 100 where it is.
        c.refused("waits", Scenes::busy, x -> x.waits(0, 1, 0), 2);
        c.refused("waits", Scenes::busy, x -> x.waits(0, 1, 1), 29000 - 400 - 1000 - 1000 - 3000);
    }

    /** By the sky the hours from the first to the n-th are wet on the way: so long it waits, 12 at most. */
    private static void promise26From0To12Hours() {
        for (int wet = 0; wet <= 14; wet++) {
            SaltArmy x = Checks.land("pk1;pr0;w;cg50");
            for (int hour = 1; hour <= wet; hour++) {
                x.sky(1, hour, true);
            }
            c.due("hours to wait by " + wet, x.waits(0, 1, 0), wet <= 12 ? wet : 0);
            c.due("mean by " + wet, x.waits(0, 1, 1), wet <= 12 ? 50000 : 45000);
        }
    }

    private static void promise26OfSeveralTheFewest() {
        SaltArmy x = Checks.land("pk1;pr0;w;cg50");
        c.due("none", x.waits(0, 1, 0), 0);
        x.sky(1, 1, true);
        c.due("one", x.waits(0, 1, 0), 1);
        x.sky(1, 3, true);
        c.due("one", x.waits(0, 1, 0), 1);
        SaltArmy all = Checks.landWithLaw("pk1;pr50;w;cg50", "y:3");
        c.due("all alike", all.waits(0, 1, 0), 0);
    }

    private static void promise26WetWhereItIsWithoutARoof() {
        String[] roofs = {"p", "pk1"};
        for (int roof = 0; roof < 2; roof++) {
            SaltArmy x = Checks.land(roofs[roof] + "r0;pr0;w;cg50w3");
            x.sky(1, 1, true);
            x.sky(1, 2, true);
            x.sky(0, 1, true);
            c.due("two hours, or none", x.waits(0, 1, 0), roof == 0 ? 0 : 2);
            c.due("mean", x.waits(0, 1, 1), roof == 0 ? 47000 : 50000);
        }
    }

    private static void promise26GoneWhereItWaits() {
        SaltArmy x = Checks.land("pr0;pr0;wt2;cg5");
        x.sky(0, 1, true);
        x.sky(1, 1, true);
        x.sky(1, 2, true);
        c.due("gone both ways", x.waits(0, 1, 1), 0);
        c.due("no wait", x.waits(0, 1, 0), 0);
    }

    /** Having waited 12 hours the nine hours of the way are the 13th to the 21st. */
    private static void promise26TheSkyAsItIsThen() {
        SaltArmy x = Checks.landWithLaw("pk1;pr99;wt9;cg50", "y:t>20?9;y:t<12?1;y:0");
        c.due("waits", x.waits(0, 1, 0), 12);
        x.sky(1, 21, true);
        c.due("in the 21st hour t is 20", x.waits(0, 1, 1), 50000);
        SaltArmy y = Checks.landWithLaw("pk1;pr99;wt9;cg50", "y:t>19?9;y:t<12?1;y:0");
        y.sky(1, 21, true);
        y.sky(1, 12, false);
        c.due("one less", y.waits(0, 1, 0), 11);
        c.due("one less", y.waits(0, 1, 1), 50000);
    }

    private static void promise26ByTheFewestHours() {
        SaltArmy x = Checks.land("pk1;pr0;pr0;wt3f9;wa0b2t2;wa2b1t2;cg50");
        c.due("with the ford", x.waits(0, 1, 1), 41000);
        c.due("the best one has none", x.best(0, 1, 0, 0), 50000);
    }

    // ---- ambush

    private static void promise27NoSuchOnes() {
        int[] companies = {LOW, -1, 1, 3, 5, 6, 8, HIGH};
        for (int company : companies) {
            c.refused("ambush of " + company, Scenes::busy, x -> x.ambush(company, 1, 0), HIDDEN);
        }
        int[] places = {LOW, -1, 0, 3, 4, 5, 7, 8, HIGH};
        for (int place : places) {
            for (int what = 0; what < 3; what++) {
                int asked = what;
                c.refused("ambush to " + place, Scenes::busy, x -> x.ambush(0, place, asked), HIDDEN);
            }
        }
        int[] whats = {LOW, -2, -1, 5, 6, 100, HIGH};
        for (int what : whats) {
            c.refused("ambush's " + what, Scenes::busy, x -> x.ambush(0, 1, what), HIDDEN);
        }
        c.refused("ambush's last place", Scenes::busy, x -> x.ambush(0, 1, 4), 1);
        c.refused("ambush's worst place", Scenes::busy, x -> x.ambush(0, 1, 1), 1);
    }

    private static void promise27TenGrainsNoMoreThanItHas() {
        for (int grains = 1; grains <= 12; grains++) {
            SaltArmy x = Checks.land("p;pr0;w;cg" + grains);
            c.due("mean of " + grains, x.ambush(0, 1, 0), Math.max(0, grains - 10) * 1000);
            c.due("worst of " + grains, x.ambush(0, 1, 1), 1);
            SaltArmy ford = Checks.land("p;pr0;wf4;cg" + grains);
            c.due("behind the ford: mean of " + grains, ford.ambush(0, 1, 0), 0);
            c.due("behind the ford: worst of " + grains, ford.ambush(0, 1, 1), grains <= 4 ? NONE : 1);
        }
        SaltArmy y = Checks.land("p;pr0;w;cg99");
        c.due("mean of 99", y.ambush(0, 1, 0), 89000);
    }

    private static void promise27ThePlacesOfTheJourney() {
        SaltArmy x = Checks.land("p;p;p;p;p;p;p;p;w;wa1b2;wa2b3;wa3b4;wa4b5;wa5b6;wa6b7;cg99w1");
        for (int to = 1; to < 8; to++) {
            for (int i = 0; i < 10; i++) {
                c.due("place " + i + " to " + to, x.ambush(0, to, 2 + i), i <= to ? i : HIDDEN);
            }
        }
        c.due("far behind the last", x.ambush(0, 7, HIGH), HIDDEN);
    }

    private static void promise27WorstOfSeveralTheLowest() {
        SaltArmy x = Checks.land("p;pr0;pr0;pr0;wb3;wa3b2;wa2b1;cg50");
        c.due("0, 3, 2, 1: all alike", x.ambush(0, 1, 1), 1);
        SaltArmy y = Checks.land("p;pr0;pr0;pr0;wb3;wa3b1;wa1b2;cg50");
        c.due("0, 3, 1, 2: all alike", y.ambush(0, 2, 1), 1);
        // With fewer than 50 it loses 9 in each wet hour behind: the sooner it is poured the worse.
        SaltArmy z = Checks.landWithLaw("p;pr0;pr0;pr0;wb3;wa3b2;wa2b1;cg50", "y:g<50?9;y:0");
        z.sky(2, 2, true);
        z.sky(1, 3, true);
        c.due("the first on the journey is worst", z.ambush(0, 1, 1), 3);
        c.due("mean", z.ambush(0, 1, 0), 22000);
    }

    private static void promise27NotWhereItIs() {
        SaltArmy x = Checks.landWithLaw("p;pr0;w;cg50", "y:g<50?9;y:0");
        x.sky(1, 1, true);
        c.due("only at the end", x.ambush(0, 1, 0), 40000);
        c.due("worst", x.ambush(0, 1, 1), 1);
    }

    private static void promise27ItMakesNoLess() {
        // Who has 40 loses 40 at the end; who was poured loses nothing more: no place makes less than 0.
        SaltArmy x = Checks.landWithLaw("p;pr0;pr0;w;wa1b2;cg40", "y:g>30?40;y:0");
        x.sky(2, 2, true);
        c.due("mean without one", x.best(0, 2, 0, 0), 0);
        c.due("the least is without one", x.ambush(0, 2, 0), 0);
        c.due("none is worst", x.ambush(0, 2, 1), NONE);
        SaltArmy y = Checks.landWithLaw("p;pr0;pr0;w;wa1b2;cg40", "y:g>30?20;y:0");
        y.sky(2, 2, true);
        c.due("20 without one, 30 by 1, 10 by 2", y.ambush(0, 2, 0), 10000);
        c.due("2 is worst", y.ambush(0, 2, 1), 2);
    }

    private static void promise27OfSeveralJourneysTheFirst() {
        SaltArmy x = Checks.land("p;pr0;pr0;pr0;wb2;wb1;wa2b3;wa1b3;cg30");
        c.due("by 1", x.ambush(0, 3, 3), 1);
        c.due("mean", x.ambush(0, 3, 0), 20000);
        SaltArmy y = Checks.land("p;pr0;pr0;pr0;wb1f1;wb2;wa1b3;wa2b3;cg30");
        c.due("by 2", y.ambush(0, 3, 3), 2);
        SaltArmy none = Checks.land("p;pr0;pr0;pr0;wb1f1;wb2;wa1b3;wa2b3;cg9");
        c.due("nothing is left by both: by 1", none.ambush(0, 3, 3), 1);
        c.due("the worst place is that of the greatest mean: 2", none.ambush(0, 3, 1), 2);
    }
}
