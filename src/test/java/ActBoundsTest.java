/** Boundary cases of march (promise 12), join (13), dig (14) and cast (15). */
public final class ActBoundsTest {
    private static final Checks c = new Checks();
    private static final int NONE = SaltArmy.NONE;
    private static final int LOW = Integer.MIN_VALUE;
    private static final int HIGH = Integer.MAX_VALUE;

    public static void main(String[] args) {
        c.runAll(ActBoundsTest.class);
    }

    // ---- march

    private static void promise12NoSuchCompany() {
        int[] companies = {LOW, -1, 5, 6, 8, HIGH};
        for (int company : companies) {
            c.refused("march " + company, Scenes::busy, x -> x.march(company, 1), NONE);
        }
        c.due("the first", Scenes.busy().march(0, 1), 2);
        c.due("the last", Scenes.busy().march(4, 1), 2);
    }

    private static void promise12OneThatIsGone() {
        c.refused("march", Scenes::busy, x -> x.march(3, 1), NONE);
        SaltArmy x = Checks.land("p;p;w;cg6");
        x.hour(1);
        c.due("one grain left", Checks.grains(x, 0), 1);
        c.due("march", x.march(0, 1), 1);
        x.undo();
        x.hour(1);
        c.due("none left", x.march(0, 1), NONE);
    }

    private static void promise12OneOnAWay() {
        c.refused("on", Scenes::busy, x -> x.march(1, 0), NONE);
        c.refused("back", Scenes::busy, x -> x.march(1, 1), NONE);
        c.refused("there", Scenes::busy, x -> x.march(1, 2), NONE);
        SaltArmy x = Scenes.busy();
        x.hour(0);
        c.due("it is there", Checks.company(x, 1, 1), 0);
        c.due("march", x.march(1, 0), 9);
    }

    private static void promise12NoSuchPlace() {
        int[] places = {LOW, -1, 4, 5, 7, 8, HIGH};
        for (int place : places) {
            c.refused("march to " + place, Scenes::busy, x -> x.march(0, place), NONE);
        }
        SaltArmy x = Checks.land("p;p;p;p;p;p;p;p;wb7t3;c");
        c.due("to the eighth", x.march(0, 7), 3);
    }

    private static void promise12NoWayBetween() {
        c.refused("to a place without a way", Scenes::busy, x -> x.march(0, 3), NONE);
        c.refused("to where it is", Scenes::busy, x -> x.march(0, 0), NONE);
        SaltArmy x = Checks.land("p;p;p;w;wa1b2;c");
        c.due("by another place", x.march(0, 2), NONE);
        c.due("to the next", x.march(0, 1), 1);
    }

    private static void promise12HoursFromOneToNine() {
        for (int hours = 1; hours <= 9; hours++) {
            SaltArmy x = Checks.land("pk1;pk1;wt" + hours + ";c");
            c.due("march", x.march(0, 1), hours);
            for (int left = hours; left > 0; left--) {
                c.due("hours more", Checks.company(x, 0, 1), left);
                c.due("where it goes to", Checks.company(x, 0, 0), 1);
                x.hour(0);
            }
            c.due("there", Checks.company(x, 0, 1), 0);
            c.due("back", x.march(0, 0), hours);
        }
    }

    private static void promise12TheLowestWay() {
        SaltArmy x = Checks.land("p;p;p;wb2t9;wa1b0t5;wt2;c;cp1");
        c.due("the lowest, from its second place", x.march(0, 1), 5);
        c.due("the lowest, from its first place", x.march(1, 0), 5);
        SaltArmy ford = Checks.land("p;p;wf1;wf2;cg20");
        ford.march(0, 1);
        ford.hour(0);
        c.due("its ford", ford.count(10), 1);
    }

    // ---- join

    private static void promise13NoSuchOnes() {
        int[] companies = {LOW, -1, 5, 6, 8, HIGH};
        for (int company : companies) {
            c.refused("join 0 " + company, Scenes::busy, x -> x.join(0, company), NONE);
            c.refused("join " + company + " 0", Scenes::busy, x -> x.join(company, 0), NONE);
            c.refused("join " + company + " twice", Scenes::busy, x -> x.join(company, company), NONE);
        }
        c.due("the first and the last", Scenes.busy().join(0, 4), 53);
        c.due("the last and the first", Scenes.busy().join(4, 0), 53);
    }

    private static void promise13Alike() {
        for (int i = 0; i < 5; i++) {
            int company = i;
            c.refused("join " + i + " " + i, Scenes::busy, x -> x.join(company, company), NONE);
        }
    }

    private static void promise13OneThatIsGone() {
        c.refused("the other", Scenes::busy, x -> x.join(0, 3), NONE);
        c.refused("the one", Scenes::busy, x -> x.join(3, 0), NONE);
        SaltArmy x = Checks.land("p;p;cg20;cg20;cg20");
        c.due("join", x.join(0, 1), 40);
        c.due("join again", x.join(0, 1), NONE);
        c.due("to the gone one", x.join(1, 2), NONE);
        c.due("with a third", x.join(2, 0), 60);
    }

    private static void promise13NotAtOnePlace() {
        c.refused("elsewhere", Scenes::busy, x -> x.join(0, 2), NONE);
        c.refused("on a way to there", Scenes::busy, x -> x.join(2, 1), NONE);
        c.refused("from a way", Scenes::busy, x -> x.join(1, 2), NONE);
        SaltArmy x = Scenes.busy();
        x.hour(0);
        c.due("both there", x.join(2, 1), 42);
        SaltArmy y = Checks.land("p;p;w;c;c");
        y.march(0, 1);
        y.march(1, 1);
        c.due("both on one way", y.join(0, 1), NONE);
    }

    private static void promise13NinetyNineAtMost() {
        int[][] pairs = {{1, 1}, {97, 1}, {98, 1}, {99, 1}, {50, 49}, {50, 50}, {1, 99}, {99, 99}};
        for (int[] pair : pairs) {
            SaltArmy x = Checks.land("p;p;cg" + pair[0] + ";cg" + pair[1]);
            int all = pair[0] + pair[1];
            c.due("join of " + pair[0] + " and " + pair[1], x.join(0, 1), Math.min(99, all));
            c.due("grains", Checks.grains(x, 0), Math.min(99, all));
            c.due("the other's", Checks.grains(x, 1), 0);
            c.due("ground", x.spot(0, 4), Math.max(0, all - 99));
            c.due("elsewhere", x.spot(1, 4), 0);
            c.due("all", x.count(12), all);
            c.due("none lies of nothing", x.cast(0, 0), all > 99 ? 2 : NONE);
        }
    }

    private static void promise13ItKnowsWhatBothDid() {
        for (int one = 0; one < 16; one += 3) {
            for (int other = 0; other < 16; other += 5) {
                SaltArmy x = Checks.land("p;p;cg99q" + one + ";cg99q" + other);
                x.join(0, 1);
                c.due("knows", Checks.company(x, 0, 5), one | other);
                c.due("one that is gone", Checks.company(x, 1, 5), 0);
                c.due("nothing on the ground", x.spot(0, 5), 0);
                c.due("the others stay", Checks.company(x, 0, 3), 5);
            }
        }
    }

    private static void promise13NoHourOfTheLog() {
        SaltArmy x = Checks.land("p;p;cg99;cg99");
        x.join(0, 1);
        c.due("log", x.count(16), 0);
        c.due("act", x.count(15), 1);
    }

    // ---- dig

    private static void promise14NoSuchLivingOne() {
        int[] companies = {LOW, -1, 3, 5, 6, 8, HIGH};
        for (int company : companies) {
            c.refused("dig " + company, Scenes::busy, x -> x.dig(company), NONE);
        }
        c.due("the first", Scenes.busy().dig(0), 32);
        c.due("the last", Scenes.busy().dig(4), 27);
    }

    private static void promise14OneOnAWay() {
        c.refused("to salt", Scenes::busy, x -> x.dig(1), NONE);
        SaltArmy x = Scenes.busy();
        x.hour(0);
        c.due("there", x.dig(1), 34);
    }

    private static void promise14NoSalt() {
        SaltArmy x = Checks.land("p;ps1;cg50;cp1g50");
        c.due("no salt", x.dig(0), NONE);
        c.due("no act", x.count(15), 0);
        c.due("a grain of salt", x.dig(1), 51);
        c.refused("no salt", () -> Checks.land("p;ps1;cg50;cp1g50"), y -> y.dig(0), NONE);
    }

    private static void promise14NinetyNineAtMost() {
        for (int salt = 1; salt <= 9; salt++) {
            for (int grains = 88; grains <= 98; grains++) {
                SaltArmy x = Checks.land("ps" + salt + ";p;cg" + grains);
                int want = Math.min(99, grains + salt);
                c.due("dig " + salt + " of " + grains, x.dig(0), want);
                c.due("grains", Checks.grains(x, 0), want);
                c.due("dug", x.count(11), want - grains);
                c.due("all", x.count(12), want);
                c.due("salt stays", x.spot(0, 3), salt);
            }
        }
    }

    private static void promise14ItHas99() {
        c.refused("dig", () -> Checks.land("ps9;p;cg99"), x -> x.dig(0), NONE);
        SaltArmy x = Checks.land("ps9;p;cg98");
        c.due("98", x.dig(0), 99);
        c.due("99", x.dig(0), NONE);
        c.due("dug", x.count(11), 1);
        c.due("acts", x.count(15), 1);
    }

    // ---- cast

    private static void promise15NoSuchPlace() {
        int[] places = {LOW, -1, 4, 5, 7, 8, HIGH};
        for (int place : places) {
            c.refused("cast at " + place, Scenes::busy, x -> x.cast(place, 0), NONE);
        }
        SaltArmy x = Checks.land("p;p;p;p;p;p;p;p;cp7");
        x.hour(128);
        c.due("at the eighth", x.cast(7, 0), 1);
    }

    private static void promise15NoSuchMould() {
        int[] moulds = {LOW, -1, 4, 5, HIGH};
        for (int mould : moulds) {
            c.refused("cast of " + mould, Scenes::busy, x -> x.cast(2, mould), NONE);
        }
        for (int mould = 0; mould <= 3; mould++) {
            SaltArmy x = Scenes.busy();
            c.due("cast of " + mould, x.cast(2, mould), 5);
            c.due("mould", Checks.company(x, 5, 4), mould);
        }
    }

    private static void promise15NothingLiesThere() {
        c.refused("cast", Scenes::busy, x -> x.cast(0, 0), NONE);
        c.refused("cast", Scenes::busy, x -> x.cast(3, 0), NONE);
        SaltArmy x = Checks.landWithLaw("p;p;cg2", "y:1");
        c.due("nothing", x.cast(0, 0), NONE);
        x.hour(1);
        c.due("a grain", x.cast(0, 0), 1);
        c.due("a grain", Checks.grains(x, 1), 1);
        c.due("nothing again", x.cast(0, 0), NONE);
    }

    private static void promise15NinetyNineAtMost() {
        for (int more = -1; more <= 2; more++) {
            // What is over 99 falls on the ground: 50, then 49 and so many more.
            SaltArmy x = Checks.land("p;p;cg99;cg50;cg" + (49 + more));
            x.join(0, 1);
            x.join(0, 2);
            c.due("lies", x.spot(0, 4), 99 + more);
            c.due("cast", x.cast(0, 1), 3);
            c.due("grains", Checks.grains(x, 3), Math.min(99, 99 + more));
            c.due("the rest", x.spot(0, 4), Math.max(0, more));
            c.due("the rest is cast", x.cast(0, 1), more > 0 ? 4 : NONE);
            c.due("all", x.count(12), 99 + 99 + more);
        }
    }

    private static void promise15OfWear5AndWhatLayThere() {
        SaltArmy x = Checks.land("p;p;cg3w9m3q5;cg4w9q8;cp1g2q2;cg50w0");
        x.hour(1);
        c.due("known there", x.spot(0, 5), 13);
        c.due("cast", x.cast(0, 0), 4);
        int[] want = {0, 0, 7, 5, 0, 13};
        for (int what = 0; what < 6; what++) {
            c.due("company " + what, Checks.company(x, 4, what), want[what]);
        }
        c.due("nothing lies there then", x.spot(0, 4), 0);
        c.due("nothing of that lies there then", x.spot(0, 5), 0);
    }

    private static void promise15WhereItLay() {
        for (int place = 0; place < 8; place++) {
            for (int other = 0; other < 8; other++) {
                if (other != place) {
                    castBeside(place, other);
                }
            }
        }
    }

    private static void castBeside(int place, int other) {
        SaltArmy x = Checks.land("p;p;p;p;p;p;p;p;wt9;cg5q6p" + place + ";cg4q9p" + other);
        x.hour(255);
        for (int empty = 0; empty < 8; empty++) {
            if (empty != place && empty != other) {
                c.due("nothing lies at " + empty, x.cast(empty, 0), NONE);
            }
        }
        c.due("cast at " + place, x.cast(place, 3), 2);
        int[] want = {place, 0, 5, 5, 3, 6};
        for (int what = 0; what < 6; what++) {
            c.due("cast at " + place + ": " + what, Checks.company(x, 2, what), want[what]);
        }
        for (int spot = 0; spot < 8; spot++) {
            c.due("ground " + spot, x.spot(spot, 4), spot == other ? 4 : 0);
            c.due("known " + spot, x.spot(spot, 5), spot == other ? 9 : 0);
        }
    }

    private static void promise15TheRestKnowsNothing() {
        SaltArmy x = Checks.land("p;p;cg99w0;cg99w0;cg9w9q7");
        x.join(0, 1);
        x.hour(1);
        c.due("lies", x.spot(0, 4), 108);
        c.due("cast", x.cast(0, 0), 3);
        c.due("knows", Checks.company(x, 3, 5), 7);
        c.due("the rest", x.spot(0, 4), 9);
        c.due("nothing is known there", x.spot(0, 5), 0);
        c.due("cast", x.cast(0, 0), 4);
        c.due("knows nothing", Checks.company(x, 4, 5), 0);
    }

    /** Seven companies; 99 grains lie at 0 so that an eighth and a ninth could be cast. */
    private static SaltArmy withSeven() {
        SaltArmy x = Checks.land("p;p;cg99w9;cg99w9;cg99w9;cg99w9;cg99w9");
        x.hour(1);
        x.cast(0, 0);
        x.hour(1);
        x.cast(0, 0);
        x.hour(1);
        return x;
    }

    private static SaltArmy withEight() {
        SaltArmy x = withSeven();
        x.cast(0, 3);
        x.hour(1);
        return x;
    }

    private static void promise15EightAtMost() {
        c.due("seven", withSeven().count(2), 7);
        c.due("the eighth", withSeven().cast(0, 0), 7);
        c.due("eight", withEight().count(2), 8);
        c.refused("a ninth", ActBoundsTest::withEight, x -> x.cast(0, 0), NONE);
        c.due("all live", withEight().count(9), 8);
        SaltArmy x = withEight();
        c.due("the eighth marches not", x.march(7, 1), NONE);
        c.due("the eighth joins", x.join(7, 6), Checks.grains(x, 7));
        c.due("gone ones count", x.cast(0, 0), NONE);
        c.due("seven live", x.count(9), 7);
        c.due("eight are there", x.count(2), 8);
        x = withEight();
        x.undo();
        x.undo();
        c.due("undone: seven", x.count(2), 7);
        c.due("the eighth again", x.cast(0, 1), 7);
        c.due("its mould", Checks.company(x, 7, 4), 1);
    }

    private static void promise15ACastOneActs() {
        SaltArmy x = Checks.land("ps3;p;wt2;cg50");
        x.hour(1);
        c.due("cast", x.cast(0, 2), 1);
        c.due("digs", x.dig(1), 8);
        c.due("marches", x.march(1, 1), 2);
        x.hour(2);
        c.due("loses", Checks.grains(x, 1), 3);
        x.hour(0);
        c.due("is there", Checks.company(x, 1, 1), 0);
    }
}
