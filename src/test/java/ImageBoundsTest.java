/** Boundary cases of image (promise 37), back (38) and count (39). */
public final class ImageBoundsTest {
    private static final Checks c = new Checks();
    private static final int NONE = SaltArmy.NONE;
    private static final int HIDDEN = SaltArmy.HIDDEN;
    private static final int LOW = Integer.MIN_VALUE;
    private static final int HIGH = Integer.MAX_VALUE;

    public static void main(String[] args) {
        c.runAll(ImageBoundsTest.class);
    }

    // ---- image

    private static void promise37NoLand() {
        c.due("image", new SaltArmy().image(), NONE);
        SaltArmy x = Scenes.withoutLand();
        c.due("image", x.image(), NONE);
        c.due("a land", Checks.text(x, 0, "p;p;c"), 1);
        c.due("no image was kept", x.back(), NONE);
        c.due("image", x.image(), 0);
        c.due("back", x.back(), 0);
    }

    private static void promise37InsteadOfTheOneAhead() {
        SaltArmy x = Checks.land("p;p;c");
        c.due("image", x.image(), 0);
        x.hour(1);
        c.due("image", x.image(), 1);
        x.hour(1);
        c.due("back", x.back(), 1);
        c.due("grains", Checks.grains(x, 0), 45);
        c.due("again", x.back(), 1);
    }

    private static void promise37AnImageIsNoAct() {
        SaltArmy x = Checks.land("p;p;c");
        x.hour(1);
        c.due("image", x.image(), 1);
        c.due("acts", x.count(15), 1);
        c.due("undo", x.undo(), 0);
        c.due("hour", x.count(8), 0);
        c.due("back", x.back(), 1);
        c.due("grains", Checks.grains(x, 0), 45);
    }

    /** All that an act can change is as it was. */
    private static void promise37ItKeepsAll() {
        SaltArmy x = Scenes.busy();
        SaltArmy y = Scenes.busy();
        c.due("image", x.image(), 3);
        c.due("image", y.image(), 3);
        x.dig(0);
        x.join(0, 4);
        x.march(0, 1);
        x.cast(2, 1);
        x.war(20, 5);
        c.due("back", x.back(), 3);
        c.due("back at once", y.back(), 3);
        c.due("alike", Looks.at(x).equals(Looks.at(y)), true);
    }

    private static void promise37WhatItDoesNotKeep() {
        SaltArmy x = Checks.land("p;p;w;c");
        c.due("image", x.image(), 0);
        x.sky(0, 1, true);
        x.streak(1, 2);
        Checks.text(x, 1, "y:1");
        x.law(0);
        Checks.text(x, 2, "w");
        Checks.feed(x, "p;p");
        c.due("back", x.back(), 0);
        int[] whats = {13, 14, 4, 7, 5, 6};
        int[] want = {1, 1, 1, 0, 1, 3};
        for (int i = 0; i < whats.length; i++) {
            c.due("count " + whats[i], x.count(whats[i]), want[i]);
        }
        c.due("the law holds", x.wear(0), 1);
        c.due("orders", x.step(0, 0, 0), 5);
        c.due("tape", x.fault(0), 3);
    }

    // ---- back

    private static void promise38NoImageOfThisLand() {
        c.refused("no image", () -> Checks.land(Scenes.LAND), x -> x.back(), NONE);
        c.refused("no land", Scenes::withoutLand, x -> x.back(), NONE);
        SaltArmy x = Checks.land("p;p;c");
        x.image();
        c.due("another land", Checks.text(x, 0, "p;p;p;c;c"), 2);
        x.hour(1);
        c.due("no image of it", x.back(), NONE);
        c.due("hour", x.count(8), 1);
        c.due("acts", x.count(15), 1);
        c.due("companies", x.count(2), 2);
    }

    private static void promise38ARefusedLandLeavesTheImage() {
        SaltArmy x = Checks.land("p;p;c");
        x.hour(1);
        x.image();
        c.due("no land", Checks.text(x, 0, "p;c"), NONE);
        c.due("back", x.back(), 1);
    }

    private static void promise38NoActCanBeUndoneThen() {
        SaltArmy x = Checks.land("p;p;c");
        x.hour(0);
        x.hour(0);
        x.image();
        x.hour(0);
        c.due("acts", x.count(15), 3);
        c.due("back", x.back(), 2);
        c.due("acts", x.count(15), 0);
        c.due("undo", x.undo(), NONE);
        c.due("hour", x.count(8), 2);
        x.hour(1);
        c.due("undo", x.undo(), 0);
        c.due("hour", x.count(8), 2);
        c.due("none", x.undo(), NONE);
    }

    private static void promise38FortyActsBehindIt() {
        SaltArmy x = Checks.land("p;p;cg99w0");
        x.war(30, 1);
        x.image();
        x.back();
        x.war(45, 2);
        c.due("acts", x.count(15), 40);
        for (int i = 39; i >= 0; i--) {
            c.due("undo", x.undo(), i);
        }
        c.due("hour", x.count(8), 35);
        c.due("none", x.undo(), NONE);
    }

    private static void promise38TheLogOfIt() {
        SaltArmy x = Checks.land("p;p;cg99w0");
        x.war(48, 1);
        x.war(13, 1);
        int oldest = x.log(59, 0);
        c.due("image", x.image(), 61);
        x.war(48, 2);
        c.due("back", x.back(), 61);
        c.due("log", x.count(16), 60);
        c.due("the oldest", x.log(59, 0), oldest);
        c.due("none behind it", x.log(60, 0), NONE);
    }

    // ---- count

    private static void promise39Others() {
        int[] whats = {LOW, -1000000, -2, -1, 17, 18, 100, HIGH};
        for (int what : whats) {
            c.refused("count " + what, Scenes::busy, x -> x.count(what), HIDDEN);
            c.due("count " + what + " of a new object", new SaltArmy().count(what), HIDDEN);
        }
    }

    private static void promise39AllCounts() {
        int[] want = {4, 3, 5, 2, 2, 1, 5, 1, 3, 4, 0, 9, 101, 2, 1, 6, 3};
        for (int i = 0; i < want.length; i++) {
            int what = i;
            c.refused("count " + i, Scenes::busy, x -> x.count(what), want[i]);
        }
    }

    private static void promise39AllGrainsAreAsAtFirstAndDug() {
        SaltArmy x = Checks.land("ps9;ps4;pk1;wf3;wa1b2f9t2;wa2b0;cg60;cg99;cp1g40;cp2g9;fb9;fp1b9;fp2b9");
        int first = 60 + 99 + 40 + 9;
        for (int i = 0; i < 60; i++) {
            x.march(i % 5, i % 3);
            x.dig((i + 1) % 5);
            x.hour(i % 8);
            x.join(i % 4, (i + 1) % 4);
            x.cast(i % 3, i % 4);
            c.due("all", x.count(12), first + x.count(11));
        }
        c.due("river", x.count(10) > 0, true);
        c.due("dug", x.count(11) > 0, true);
    }

    private static void promise39WhoLive() {
        SaltArmy x = Checks.land("p;p;cg5;cg6;cp1");
        c.due("three", x.count(9), 3);
        x.hour(1);
        c.due("two", x.count(9), 2);
        c.due("three with gone ones", x.count(2), 3);
        x.hour(1);
        c.due("one", x.count(9), 1);
        x.cast(0, 0);
        c.due("two with the cast one", x.count(9), 2);
        c.due("four", x.count(2), 4);
    }
}
