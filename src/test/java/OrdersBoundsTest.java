/** Boundary cases of orders as texts (promises 4 and 5, the terms), of step (20), run (21) and perform (22). */
public final class OrdersBoundsTest {
    private static final Checks c = new Checks();
    private static final int NONE = SaltArmy.NONE;
    private static final int HIDDEN = SaltArmy.HIDDEN;
    private static final int LOW = Integer.MIN_VALUE;
    private static final int HIGH = Integer.MAX_VALUE;
    private static final String SIXTEEN = "r;r;r;r;r;r;r;r;r;r;r;r;r;r;r;w";

    public static void main(String[] args) {
        c.runAll(OrdersBoundsTest.class);
    }

    private static void fault(String text, int want) {
        c.due("fault of " + text, Checks.fault(new SaltArmy(), 2, text), want);
        c.due("text of " + text, Checks.text(new SaltArmy(), 2, text), want == NONE ? 0 : NONE);
    }

    // ---- as a text

    private static void promise04OneStepAtLeast() {
        fault("", 0);
        fault(" ", 1);
        fault("r", NONE);
        fault("w", NONE);
        fault("r;", 2);
        fault("r; ", 3);
        fault(";r", 0);
        fault("r;;r", 2);
        fault("rr", 1);
    }

    private static void promise04SixteenStepsNotSeventeen() {
        fault(SIXTEEN, NONE);
        fault(SIXTEEN + " ", NONE);
        fault(SIXTEEN + ";r", 31);
        fault(SIXTEEN + ";", 31);
        fault(SIXTEEN + ";x", 31);
        fault(SIXTEEN + " ;r", 32);
        fault(SIXTEEN + "x", 31);
        String fifteen = SIXTEEN.substring(0, 29);
        fault(fifteen, NONE);
        fault(fifteen + ";", 30);
        fault(fifteen + ";x", 30);
        fault(Checks.repeat("m01;", 15) + "m01", NONE);
        fault(Checks.repeat("m01;", 16) + "m01", 63);
        fault(Checks.repeat("m 0 1 ;", 16), 111);
    }

    private static void promise04DigitsOfAStep() {
        String[] sorts = {"m", "j", "d", "s", "r", "w"};
        int[] digits = {2, 2, 1, 1, 0, 0};
        for (int sort = 0; sort < sorts.length; sort++) {
            for (int n = 0; n <= 4; n++) {
                String text = sorts[sort] + "1234".substring(0, n);
                fault(text, n < digits[sort] ? n + 1 : n == digits[sort] ? NONE : digits[sort] + 1);
                fault(text + ";r", n < digits[sort] ? n + 1 : n == digits[sort] ? NONE : digits[sort] + 1);
            }
        }
        fault("mr", 1);
        fault("m1r", 2);
        fault("d/", 1);
        fault("d:", 1);
        fault("d0", NONE);
        fault("d9", NONE);
    }

    private static void promise04LettersOfAStep() {
        for (char letter = 1; letter < 256; letter++) {
            if ("mjdsrw ".indexOf(letter) < 0) {
                fault("" + letter, 0);
                fault("r;" + letter, 2);
                fault("r" + letter, letter == ';' ? 2 : 1);
            }
        }
    }

    private static void promise04BlanksBetweenLettersAndDigits() {
        fault(" m 0 1 ; j 2 3 ; d 4 ; s 5 ; r ; w ", NONE);
        SaltArmy x = new SaltArmy();
        Checks.text(x, 2, " m  7  8 ");
        c.due("first", x.step(0, 0, 1), 7);
        c.due("second", x.step(0, 0, 2), 8);
        fault("m0 ", 3);
        fault("m 1 2 3", 6);
    }

    private static void promise04WhatIsNotThereIsNoFault() {
        SaltArmy x = Checks.land("p;p;w;c");
        String[] texts = {"m99", "m08", "j09", "d9", "s9"};
        for (int i = 0; i < texts.length; i++) {
            c.due("fault of " + texts[i], Checks.fault(x, 2, texts[i]), NONE);
            if (i < 4) {
                c.due("text of " + texts[i], x.text(2), i);
                c.due("it can't be: " + texts[i], x.run(i, 0), 0);
                c.due("nothing of it is done: " + texts[i], x.perform(i), 0);
            }
        }
        SaltArmy y = Checks.landWithOrders("p;p;w;c", "s9");
        c.due("it can't be: s9", y.run(0, 0), 0);
    }

    // ---- steps

    private static SaltArmy withSixteen() {
        SaltArmy x = Scenes.busy();
        Checks.text(x, 2, SIXTEEN);
        return x;
    }

    private static void promise20NoSuchOrders() {
        int[] orders = {LOW, -2, -1, 2, 3, 4, HIGH};
        for (int which : orders) {
            for (int what = 0; what < 3; what++) {
                int asked = what;
                c.refused("step " + which + " 0 " + what, OrdersBoundsTest::withSixteen, x -> x.step(which, 0, asked), NONE);
            }
        }
        c.due("the last ones", withSixteen().step(1, 0, 0), 4);
        c.due("of none", new SaltArmy().step(0, 0, 0), NONE);
    }

    private static void promise20NoSuchStep() {
        int[] steps = {LOW, -1, 16, 17, HIGH};
        for (int i : steps) {
            c.refused("step 1 " + i, OrdersBoundsTest::withSixteen, x -> x.step(1, i, 0), NONE);
        }
        c.due("the first", withSixteen().step(1, 0, 0), 4);
        c.due("the sixteenth", withSixteen().step(1, 15, 0), 5);
        int[] beside = {-1, 5, 6, 15};
        for (int i : beside) {
            c.refused("step 0 " + i, OrdersBoundsTest::withSixteen, x -> x.step(0, i, 0), NONE);
        }
        c.due("the fifth", withSixteen().step(0, 4, 0), 1);
    }

    private static void promise20NoSuchWhat() {
        int[] whats = {LOW, -1, 3, 4, HIGH};
        for (int what : whats) {
            c.refused("step 0 0 " + what, OrdersBoundsTest::withSixteen, x -> x.step(0, 0, what), NONE);
            c.refused("step 0 4 " + what, OrdersBoundsTest::withSixteen, x -> x.step(0, 4, what), NONE);
        }
    }

    private static void promise20DigitsThatAStepHasNot() {
        SaltArmy x = new SaltArmy();
        Checks.text(x, 2, "m90;j08;d7;s6;r;w");
        int[][] want = {{0, 9, 0}, {1, 0, 8}, {2, 7, NONE}, {3, 6, NONE}, {4, NONE, NONE}, {5, NONE, NONE}};
        for (int i = 0; i < want.length; i++) {
            for (int what = 0; what < 3; what++) {
                c.due("step " + i + " " + what, x.step(0, i, what), want[i][what]);
            }
        }
    }

    // ---- runs

    private static void promise21NoSuchOrdersOrWhat() {
        int[] orders = {LOW, -2, -1, 2, 3, 4, HIGH};
        for (int which : orders) {
            c.refused("run " + which, OrdersBoundsTest::withSixteen, x -> x.run(which, 0), HIDDEN);
            c.refused("run's grains " + which, OrdersBoundsTest::withSixteen, x -> x.run(which, 1), HIDDEN);
        }
        int[] whats = {LOW, -1, 2, 3, HIGH};
        for (int what : whats) {
            c.refused("run 0 " + what, OrdersBoundsTest::withSixteen, x -> x.run(0, what), HIDDEN);
        }
        c.due("no land", Scenes.withoutLand().run(0, 0), HIDDEN);
        c.due("no land", Scenes.withoutLand().run(0, 1), HIDDEN);
    }

    private static void promise21ARunIsApart() {
        c.refused("run", OrdersBoundsTest::withSixteen, x -> x.run(0, 0), 4);
        c.refused("run's grains", OrdersBoundsTest::withSixteen, x -> x.run(0, 1), runByHand());
        c.refused("run of sixteen", OrdersBoundsTest::withSixteen, x -> x.run(1, 0), NONE);
    }

    /** The same steps as acts. */
    private static int runByHand() {
        SaltArmy x = Scenes.busy();
        x.hour(0);
        x.dig(0);
        x.march(0, 1);
        x.hour(15);
        c.due("the fifth step can't be", x.join(0, 1), NONE);
        int grains = 0;
        for (int i = 0; i < x.count(2); i++) {
            grains += Checks.grains(x, i);
        }
        return grains;
    }

    private static void ran(String orders, int want, int grains) {
        SaltArmy x = Checks.landWithOrders("ps1;p;p;wt2;cg20w9;cg10w9;cp1g30w9", orders);
        c.due("run of " + orders, x.run(0, 0), want);
        c.due("run's grains of " + orders, x.run(0, 1), grains);
        c.due("perform of " + orders, x.perform(0), want == NONE ? x.count(15) : want);
        c.due("acts of " + orders, x.count(15), want == NONE ? steps(orders) : want);
        int left = 0;
        for (int i = 0; i < x.count(2); i++) {
            left += Checks.grains(x, i);
        }
        c.due("grains behind " + orders, left, grains);
    }

    private static int steps(String orders) {
        return orders.split(";").length;
    }

    private static void promise21TheFirstStepThatCantBe() {
        ran("d2", 0, 60);
        ran("d0;d2", 1, 61);
        ran("d0;r;d2;r", 2, 61);
        ran("d0", NONE, 61);
        ran("m02", 0, 60);
        ran("m01", NONE, 60);
        ran("m01;m00", 1, 60);
        ran("j02", 0, 60);
        ran("j01", NONE, 60);
        ran("j00", 0, 60);
        ran("s0", 0, 60);
        ran("w;s0", NONE, 20 + 10 + 30 - 27 + 18);
        ran("w;s0;s0", 2, 20 + 10 + 30 - 27 + 18);
        ran("w;w;w;d1", 3, 3);
        ran("r;r;r;r;r;r;r;r;r;r;r;r;r;r;r;r", NONE, 54);
        ran("r;r;r;r;r;r;r;r;r;r;r;r;r;r;r;d2", 15, 54);
    }

    private static void promise21ACastOfAStepIsOfMould0() {
        SaltArmy x = Checks.landWithOrders("p;p;cg20m3", "w;s0");
        c.due("done", x.perform(0), 2);
        c.due("mould", Checks.company(x, 1, 4), 0);
        c.due("grains", Checks.grains(x, 1), 5);
    }

    private static void promise21RainOfAStepIsEverywhere() {
        SaltArmy x = Checks.landWithOrders("p;p;p;p;p;p;p;p;cg20;cp7g20", "w;r");
        c.due("done", x.perform(0), 2);
        c.due("rain", x.log(1, 0), 255);
        c.due("no rain", x.log(0, 0), 0);
        c.due("grains", Checks.grains(x, 1), 15);
    }

    private static void promise22NoSuchOrders() {
        int[] orders = {LOW, -2, -1, 2, 3, 4, HIGH};
        for (int which : orders) {
            c.refused("perform " + which, OrdersBoundsTest::withSixteen, x -> x.perform(which), NONE);
        }
        c.due("no land", Scenes.withoutLand().perform(0), NONE);
        c.due("none told", Checks.land("p;p;c").perform(0), NONE);
    }

    private static void promise22TheFirstStepCantBe() {
        SaltArmy x = Scenes.busy();
        Checks.text(x, 2, "m03;r");
        c.refused("nothing is done", () -> withOrders("m03;r"), y -> y.perform(1), 0);
        c.due("nothing is done", x.perform(1), 0);
        c.due("no act", x.count(15), 6);
    }

    private static SaltArmy withOrders(String orders) {
        SaltArmy x = Scenes.busy();
        Checks.text(x, 2, orders);
        return x;
    }

    private static void promise22EachStepIsAnAct() {
        SaltArmy x = Checks.landWithOrders("ps9;p;w;cg20;cg20", "d0;j01;m01;w;s1;r;d0");
        c.due("done", x.perform(0), 6);
        c.due("acts", x.count(15), 6);
        int[] hours = {1, 1, 0, 0, 0, 0};
        for (int i = 0; i < 6; i++) {
            c.due("undo", x.undo(), 5 - i);
            c.due("hour", x.count(8), hours[i]);
        }
        c.due("as at first", Checks.grains(x, 0) + Checks.grains(x, 1), 40);
        c.due("as at first", x.count(11), 0);
        c.due("sixteen", Checks.text(x, 2, SIXTEEN), 1);
        c.due("all done", x.perform(1), 16);
        c.due("acts", x.count(15), 16);
        c.due("hour", x.count(8), 16);
    }

    private static void promise22FortyActsBySteps() {
        SaltArmy x = Checks.landWithOrders("p;p;cg99", SIXTEEN);
        for (int i = 1; i <= 3; i++) {
            c.due("done", x.perform(0), 16);
            c.due("acts", x.count(15), Math.min(40, 16 * i));
        }
        c.due("undo", x.undo(), 39);
        c.due("hour", x.count(8), 47);
    }
}
