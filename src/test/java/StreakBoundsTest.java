/** Boundary cases of streak (promise 30) and rained (31). */
public final class StreakBoundsTest {
    private static final Checks c = new Checks();
    private static final int NONE = SaltArmy.NONE;
    private static final int LOW = Integer.MIN_VALUE;
    private static final int HIGH = Integer.MAX_VALUE;

    public static void main(String[] args) {
        c.runAll(StreakBoundsTest.class);
    }

    // ---- streak

    private static void promise30NoSuchPlace() {
        int[] places = {LOW, -1, 4, 5, 7, 8, HIGH};
        for (int place : places) {
            c.refused("streak of " + place, Scenes::busy, x -> x.streak(place, 0), NONE);
        }
        c.due("the first place", Scenes.busy().streak(0, 0), 2);
        c.due("the last place", Scenes.busy().streak(3, 0), 2);
        c.due("the eighth place", Checks.land("p;p;p;p;p;p;p;p;c").streak(7, 0), 1);
    }

    private static void promise30GrainsFrom0To99() {
        int[] grains = {LOW, -2, -1, 100, 101, HIGH};
        for (int found : grains) {
            c.refused("streak with " + found, Scenes::busy, x -> x.streak(0, found), NONE);
        }
        c.due("with 0", Scenes.busy().streak(0, 0), 2);
        c.due("with 99", Scenes.busy().streak(0, 99), 2);
    }

    private static SaltArmy withStreaks(int n) {
        SaltArmy x = Checks.land("p;p;wt3;cg50");
        for (int i = 1; i <= n; i++) {
            c.due("streak " + i, x.streak(1, 10), i);
        }
        return x;
    }

    private static void promise30EightNotNine() {
        c.due("the eighth", withStreaks(7).streak(0, 0), 8);
        c.refused("a ninth", () -> withStreaks(8), x -> x.streak(0, 0), NONE);
        c.refused("a ninth", () -> withStreaks(8), x -> x.streak(1, 5), NONE);
        SaltArmy x = withStreaks(8);
        c.due("two of three hours", x.rained(0, 1, NONE), 3);
        c.due("refused", x.streak(1, 5), NONE);
        c.due("two of three hours still", x.rained(0, 1, NONE), 3);
        c.due("count", x.count(14), 8);
        SaltArmy last = withStreaks(7);
        last.streak(1, 5);
        c.due("the eighth counts", last.rained(0, 1, NONE), 0);
    }

    // ---- rained

    private static void promise31NoSuchOnes() {
        int[] companies = {LOW, -1, 1, 3, 5, 6, 8, HIGH};
        for (int company : companies) {
            c.refused("rained on " + company, Scenes::busy, x -> x.rained(company, 1, NONE), NONE);
            c.refused("the first on " + company, Scenes::busy, x -> x.rained(company, 1, 0), NONE);
        }
        int[] places = {LOW, -1, 0, 3, 4, 5, 7, 8, HIGH};
        for (int place : places) {
            c.refused("rained to " + place, Scenes::busy, x -> x.rained(0, place, NONE), NONE);
            c.refused("the first to " + place, Scenes::busy, x -> x.rained(0, place, 0), NONE);
        }
        int[] sets = {LOW, -3, -2, 2, 3, 4, HIGH};
        for (int i : sets) {
            c.refused("the set " + i, Scenes::busy, x -> x.rained(0, 1, i), NONE);
        }
        c.refused("how many", Scenes::busy, x -> x.rained(0, 1, NONE), 2);
        c.refused("the first", Scenes::busy, x -> x.rained(0, 1, 0), 1);
        c.refused("the second", Scenes::busy, x -> x.rained(0, 1, 1), 2);
    }

    private static void promise31TwelveHoursNotThirteen() {
        for (int hours = 1; hours <= 9; hours++) {
            SaltArmy x = Checks.land("p;p;wt" + hours + ";c");
            c.due("sets of " + hours, x.rained(0, 1, NONE), 1 << hours);
            c.due("the last", x.rained(0, 1, (1 << hours) - 1), (1 << hours) - 1);
            c.due("none behind it", x.rained(0, 1, 1 << hours), NONE);
        }
        for (int more = 1; more <= 9; more++) {
            SaltArmy x = Checks.land("p;p;p;wt9;wa1b2t" + more + ";cg99w1");
            boolean few = more <= 3;
            c.due("sets of 9 and " + more, x.rained(0, 2, NONE), few ? 1 << 9 + more : NONE);
            c.due("the first of 9 and " + more, x.rained(0, 2, 0), few ? 0 : NONE);
            c.due("the last of 9 and " + more, x.rained(0, 2, (1 << 9 + more) - 1), few ? (1 << 9 + more) - 1 : NONE);
            c.due("nine hours", x.rained(0, 1, NONE), 512);
        }
        c.refused("thirteen hours", () -> Checks.land("p;p;p;wt9;wa1b2t4;c"), x -> x.rained(0, 2, NONE), NONE);
    }

    private static void promise31TheFewestHours() {
        SaltArmy x = Checks.land("p;p;p;wt4;wb2t3;wa2b1t2;c");
        c.due("four hours, not five", x.rained(0, 1, NONE), 16);
        SaltArmy first = Checks.land("p;p;p;wb2t2;wa2b1t2;wt4;cg50");
        first.streak(2, 5);
        c.due("of two with four hours the first: straight", first.rained(0, 1, NONE), 0);
        SaltArmy long1 = Checks.land("p;p;p;wt9;wa1b2t9;wb2t9;c");
        c.due("nine, not eighteen", long1.rained(0, 2, NONE), 512);
    }

    private static void promise31StreaksOnBothSides() {
        // Three hours to 1, two to 2; 4 grains each time.
        int[] ofThree = {1, 3, 3, 1};
        for (int grains = 0; grains <= 14; grains++) {
            SaltArmy x = Checks.land("p;p;p;wt3;wa1b2t2;cg50w4");
            x.streak(1, grains);
            c.due("streak of " + grains, x.rained(0, 2, NONE), grains % 4 == 0 && grains <= 12 ? ofThree[grains / 4] * 4 : 0);
        }
        SaltArmy both = Checks.land("p;p;p;wt3;wa1b2t2;cg50w4");
        both.streak(1, 4);
        both.streak(2, 8);
        c.due("both", both.rained(0, 2, NONE), 3);
        int[] sets = {1 + 24, 2 + 24, 4 + 24};
        for (int i = 0; i < 3; i++) {
            c.due("set " + i, both.rained(0, 2, i), sets[i]);
        }
        c.due("no more", both.rained(0, 2, 3), NONE);
    }

    private static void promise31NoMoreThanItHad() {
        // Of 10 grains 4, 4 and 2.
        for (int grains = 0; grains <= 13; grains++) {
            SaltArmy x = Checks.land("p;p;wt4;cg10w4");
            x.streak(1, grains);
            int want = grains == 0 ? 1 : grains == 4 ? 4 : grains == 8 ? 6 : grains == 10 ? 5 : 0;
            c.due("streak of " + grains, x.rained(0, 1, NONE), want);
        }
    }

    private static void promise31TheFordIsNoRain() {
        SaltArmy x = Checks.land("p;p;p;wf6;wa1b2f9;cg10w9");
        x.streak(1, 0);
        x.streak(2, 4);
        c.due("behind the ford it had four", x.rained(0, 2, NONE), 1);
        c.due("behind the ford it had four", x.rained(0, 2, 0), 2);
        SaltArmy gone = Checks.land("p;p;p;wf9;wa1b2;cg9w9");
        gone.streak(2, 0);
        c.due("gone in the ford: nothing to lose", gone.rained(0, 2, NONE), 4);
        gone.streak(1, 9);
        c.due("gone by rain", gone.rained(0, 2, NONE), 2);
    }

    private static void promise31APlaceThatItDoesNotComeTo() {
        SaltArmy x = Checks.land("p;p;p;w;wa1b2;c");
        x.streak(2, 0);
        c.due("nothing lies there", x.rained(0, 1, NONE), 2);
        x.streak(0, 0);
        c.due("nothing lies where it was", x.rained(0, 1, NONE), 2);
        x.streak(0, 1);
        c.due("a grain where it was", x.rained(0, 1, NONE), 0);
        SaltArmy y = Checks.land("p;p;p;w;wa1b2;c");
        y.streak(2, 1);
        c.due("a grain elsewhere", y.rained(0, 1, NONE), 0);
        c.due("a grain elsewhere", y.rained(0, 1, 0), NONE);
    }

    private static void promise31APlaceWithoutAStreak() {
        SaltArmy x = Checks.land("p;p;p;w;wa1b2;c");
        c.due("no streak", x.rained(0, 2, NONE), 4);
        x.streak(1, 5);
        c.due("any at 2", x.rained(0, 2, NONE), 2);
        c.due("any at 2", x.rained(0, 2, 0), 1);
        c.due("any at 2", x.rained(0, 2, 1), 3);
    }

    private static void promise31TwoStreaksOfAPlace() {
        SaltArmy x = Checks.land("p;p;wt2;c");
        x.streak(1, 5);
        x.streak(1, 5);
        c.due("alike", x.rained(0, 1, NONE), 2);
        x.streak(1, 10);
        c.due("never both", x.rained(0, 1, NONE), 0);
    }

    private static void promise31RainThatTakesNothing() {
        SaltArmy x = Checks.land("p;ph9;wt2;cw3");
        x.streak(1, 0);
        c.due("all sets", x.rained(0, 1, NONE), 4);
        SaltArmy law = Checks.landWithLaw("p;p;wt3;cg50", "y:t=1?0;y:7");
        law.streak(1, 7);
        c.due("the second hour takes nothing", law.rained(0, 1, NONE), 4);
        int[] sets = {1, 3, 4, 6};
        for (int i = 0; i < 4; i++) {
            c.due("set " + i, law.rained(0, 1, i), sets[i]);
        }
    }

    private static void promise31NoRoofNoSkyNoRainByChance() {
        SaltArmy x = Checks.land("pk1r0;pk1r0;wt2;c");
        x.sky(1, 1, false);
        x.streak(1, 10);
        c.due("both hours", x.rained(0, 1, NONE), 1);
        c.due("both hours", x.rained(0, 1, 0), 3);
    }
}
