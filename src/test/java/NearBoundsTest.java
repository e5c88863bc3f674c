/** Boundary cases of knows (promise 32), hears (33), weakest (34), reach (35) and dry (36). */
public final class NearBoundsTest {
    private static final Checks c = new Checks();
    private static final int NONE = SaltArmy.NONE;
    private static final int LOW = Integer.MIN_VALUE;
    private static final int HIGH = Integer.MAX_VALUE;
    private static final String ROW = "p;p;p;p;p;p;p;p;w;wa1b2;wa2b3;wa3b4;wa4b5;wa5b6;wa6b7";

    public static void main(String[] args) {
        c.runAll(NearBoundsTest.class);
    }

    private static SaltArmy nobody() {
        SaltArmy x = Checks.land("p;p;w;cg1q1;cp1g2q2");
        x.hour(3);
        return x;
    }

    // ---- knows

    private static void promise32NoSuchThing() {
        int[] things = {LOW, -1, 4, 5, 31, 32, HIGH};
        for (int thing : things) {
            c.refused("knows " + thing, Scenes::busy, x -> x.knows(thing), NONE);
        }
        int[] told = {1, 2, 4, 16};
        for (int i = 0; i < 4; i++) {
            int thing = i;
            c.refused("knows " + i, Scenes::busy, x -> x.knows(thing), told[i]);
        }
    }

    private static void promise32LivingOnesAlone() {
        for (int thing = 0; thing < 4; thing++) {
            c.due("nobody lives", nobody().knows(thing), 0);
        }
        SaltArmy x = Checks.land("p;p;cq15;cq0;cq15;cq15;cq15");
        c.due("all but one", x.knows(3), 29);
        x.join(1, 4);
        c.due("it knows now, the other not", x.knows(3), 15);
    }

    private static void promise32OneThatWasCast() {
        SaltArmy x = Checks.land("p;p;cg5q4;cp1");
        x.hour(1);
        c.due("lies on the ground", x.knows(2), 0);
        x.cast(0, 0);
        c.due("cast", x.knows(2), 4);
    }

    private static void promise32TheEighthCompany() {
        SaltArmy x = Checks.land("p;p;p;p;cg99w9q1;cg99w9q1;cp1g1q1;cp2g1q1;cp3g1q1");
        x.hour(14);
        for (int place = 1; place <= 3; place++) {
            x.cast(place, 0);
        }
        c.due("two and three that were cast", x.knows(0), 3 + 32 + 64 + 128);
    }

    // ---- hears

    private static void promise33OutOfBounds() {
        int[] ways = {LOW, -1, 8, 9, HIGH};
        for (int r : ways) {
            c.refused("hears by " + r, Scenes::busy, x -> x.hears(r), NONE);
        }
        c.refused("hears by 0", Scenes::busy, x -> x.hears(0), 0);
        c.refused("hears by 7", Scenes::busy, x -> x.hears(7), 4);
    }

    private static void promise33FromNoneToSevenWays() {
        for (int far = 0; far <= 7; far++) {
            SaltArmy x = Checks.land(ROW + ";cq1;cq2p" + far);
            for (int r = 0; r <= 7; r++) {
                c.due("by " + r + " over " + far, x.hears(r), r >= far ? 2 : 0);
            }
        }
    }

    private static void promise33FromOneToTheNext() {
        SaltArmy x = Checks.land(ROW + ";cq1;cp2q2;cp4q4;cp7q8");
        int[] want = {0, 0, 0, 4, 4, 4, 4, 4};
        for (int r = 0; r <= 7; r++) {
            c.due("by " + r, x.hears(r), want[r]);
        }
        SaltArmy y = Checks.land(ROW + ";cq1;cp2q2;cp4q4;cp7");
        int[] want2 = {0, 0, 3, 4, 4, 4, 4, 4};
        for (int r = 0; r <= 7; r++) {
            c.due("by " + r, y.hears(r), want2[r]);
        }
    }

    private static void promise33NotOverGoneOnes() {
        SaltArmy x = Checks.land("p;p;p;w;wa1b2;cq1;cp1g5;cp2q2");
        c.due("over the one between", x.hears(1), 3);
        x.hour(2);
        c.due("it is gone", x.hears(1), 0);
        c.due("by two ways", x.hears(2), 2);
        c.due("nobody lives", nobody().hears(7), 0);
    }

    private static void promise33WhatAGoneOneKnewIsNotAsked() {
        SaltArmy x = Checks.land("p;p;cg5q8;cp1q1;cp1");
        c.due("the first alone knows", x.hears(0), 0);
        x.hour(1);
        c.due("it is gone: both know all", x.hears(0), 2);
    }

    private static void promise33NothingIsKnown() {
        c.due("all know all", Checks.land("p;p;c;cp1;cp1").hears(0), 3);
        c.due("one knows all", Checks.land("p;p;cq15;cp1q7").hears(0), 1);
        c.due("both know all", Checks.land("p;p;cq15;cp1q15").hears(0), 2);
    }

    private static void promise33ByAnyWays() {
        SaltArmy x = Checks.land("p;p;p;wt9;wa1b0t1;wa1b2t9;cq1;cp2q2");
        c.due("ways, not hours", x.hears(2), 2);
        c.due("two ways", x.hears(1), 0);
        SaltArmy y = Checks.land("p;p;p;w;wa1b2;cq1;cp2q2");
        y.march(1, 1);
        c.due("where it goes to", y.hears(1), 2);
        SaltArmy apart = Checks.land("p;p;cq1;cp1q2");
        c.due("never", apart.hears(7), 0);
    }

    // ---- weakest

    private static void promise34NobodyLives() {
        c.refused("nobody", NearBoundsTest::nobody, x -> x.weakest(), NONE);
        c.refused("the weakest", Scenes::busy, x -> x.weakest(), 2);
        SaltArmy x = Checks.land("p;p;cg6;cp1g7");
        x.hour(1);
        c.due("one grain", x.weakest(), 0);
        x.hour(1);
        c.due("the other", x.weakest(), 1);
    }

    private static void promise34OfSeveralTheLowest() {
        c.due("all alike", Checks.land("p;p;c;c;c;c;c").weakest(), 0);
        c.due("two alike", Checks.land("p;p;cg9;cg8;cg9;cg8").weakest(), 1);
        c.due("the last", Checks.land("p;p;cg99;cg98;cg97;cg96;cg95").weakest(), 4);
        c.due("99", Checks.land("p;p;cg99").weakest(), 0);
        c.due("1", Checks.land("p;p;cg2;cg1").weakest(), 1);
    }

    // ---- reach

    private static void promise35NoSuchPlaces() {
        int[] places = {LOW, -1, 4, 5, 7, 8, HIGH};
        for (int place : places) {
            c.refused("reach from " + place, Scenes::busy, x -> x.reach(place, 0), NONE);
            c.refused("reach to " + place, Scenes::busy, x -> x.reach(0, place), NONE);
            c.refused("reach from and to " + place, Scenes::busy, x -> x.reach(place, place), NONE);
        }
        c.refused("never", Scenes::busy, x -> x.reach(0, 3), NONE);
        c.refused("never", Scenes::busy, x -> x.reach(3, 0), NONE);
        c.refused("where it is", Scenes::busy, x -> x.reach(3, 3), 0);
        c.refused("by another place", Scenes::busy, x -> x.reach(0, 2), 3);
    }

    private static void promise35TheFewestHours() {
        SaltArmy x = Checks.land(ROW + ";c");
        for (int from = 0; from < 8; from++) {
            for (int to = 0; to < 8; to++) {
                c.due("reach " + from + " " + to, x.reach(from, to), Math.abs(from - to));
            }
        }
        SaltArmy far = Checks.land("p;p;p;p;p;p;p;p;wt9;wa1b2t9;wa2b3t9;wa3b4t9;wa4b5t9;wa5b6t9;wa6b7t9;c");
        c.due("63 hours", far.reach(0, 7), 63);
        c.due("63 hours back", far.reach(7, 0), 63);
    }

    private static void promise35NotByTheLowestAlone() {
        SaltArmy x = Checks.land("p;p;wt9;wt5;wa1b0t3;wt4;c");
        c.due("the third way", x.reach(0, 1), 3);
        c.due("back", x.reach(1, 0), 3);
        c.due("a journey goes by the lowest", x.best(0, 1, 2, 2), 9);
    }

    // ---- dry

    private static void promise36NoSuchPlace() {
        int[] places = {LOW, -1, 4, 5, 7, 8, HIGH};
        for (int place : places) {
            c.refused("dry from " + place, Scenes::busy, x -> x.dry(place), NONE);
        }
        c.refused("never", Scenes::busy, x -> x.dry(3), NONE);
        c.refused("two hours", Scenes::busy, x -> x.dry(0), 2);
        c.refused("there", Scenes::busy, x -> x.dry(1), 0);
    }

    private static void promise36NoRoof() {
        SaltArmy x = Checks.land(ROW + ";c");
        for (int place = 0; place < 8; place++) {
            c.due("dry from " + place, x.dry(place), NONE);
        }
    }

    private static void promise36TheNearestRoof() {
        SaltArmy x = Checks.land("pk1;p;p;p;p;p;p;pk1;w;wa1b2;wa2b3;wa3b4;wa4b5;wa5b6;wa6b7;c");
        for (int place = 0; place < 8; place++) {
            c.due("dry from " + place, x.dry(place), Math.min(place, 7 - place));
        }
        SaltArmy far = Checks.land("p;p;p;p;p;p;p;pk1;wt9;wa1b2t9;wa2b3t9;wa3b4t9;wa4b5t9;wa5b6t9;wa6b7t9;c");
        c.due("63 hours", far.dry(0), 63);
        SaltArmy any = Checks.land("p;pk1;wt9;wt2;c");
        c.due("not by the lowest alone", any.dry(0), 2);
        SaltArmy alone = Checks.land("pk1;p;c");
        c.due("a roof without a way", alone.dry(0), 0);
        c.due("never", alone.dry(1), NONE);
    }
}
