import java.util.function.ToLongFunction;

/** Boundary cases of promises 1 (a new object), 2 (feed), 3 (end), and of the sorts of 4 (fault) and 5 (text). */
public final class TapeBoundsTest {
    private static final Checks c = new Checks();
    private static final int NONE = SaltArmy.NONE;
    private static final int HIDDEN = SaltArmy.HIDDEN;
    private static final int LOW = Integer.MIN_VALUE;
    private static final int HIGH = Integer.MAX_VALUE;

    public static void main(String[] args) {
        c.runAll(TapeBoundsTest.class);
    }

    private static void withoutLand(String call, ToLongFunction<SaltArmy> asking, long want) {
        c.due(call + " of a new object", asking.applyAsLong(new SaltArmy()), want);
        c.refused(call + " without a land", Scenes::withoutLand, asking, want);
    }

    private static void promise01NothingIsThere() {
        SaltArmy x = new SaltArmy();
        for (int what = 0; what <= 16; what++) {
            c.due("count " + what, x.count(what), what == 7 ? NONE : 0);
        }
        for (int sort = 0; sort < 3; sort++) {
            c.due("fault " + sort, x.fault(sort), 0);
            c.due("text " + sort, x.text(sort), NONE);
        }
    }

    private static void promise01NothingOfALandIsTold() {
        withoutLand("spot", x -> x.spot(0, 0), NONE);
        withoutLand("spot's ground", x -> x.spot(0, 4), NONE);
        withoutLand("way", x -> x.way(0, 0), NONE);
        withoutLand("company", x -> Checks.company(x, 0, 0), Checks.THROWN);
        withoutLand("foe", x -> x.foe(0, 0), NONE);
        withoutLand("wear", x -> x.wear(0), NONE);
        withoutLand("log", x -> x.log(0, 0), NONE);
        withoutLand("knows", x -> x.knows(0), NONE);
        withoutLand("hears", x -> x.hears(0), NONE);
        withoutLand("weakest", x -> x.weakest(), NONE);
        withoutLand("reach", x -> x.reach(0, 0), NONE);
        withoutLand("dry", x -> x.dry(0), NONE);
    }

    private static void promise01NoActCanBe() {
        withoutLand("march", x -> x.march(0, 1), NONE);
        withoutLand("join", x -> x.join(0, 1), NONE);
        withoutLand("dig", x -> x.dig(0), NONE);
        withoutLand("cast", x -> x.cast(0, 0), NONE);
        withoutLand("hour", x -> x.hour(0), NONE);
        withoutLand("hour of all numbers", x -> x.hour(NONE), NONE);
        withoutLand("war", x -> x.war(1, 1L), NONE);
        withoutLand("undo", x -> x.undo(), NONE);
        withoutLand("perform", x -> x.perform(0), NONE);
        withoutLand("run", x -> x.run(0, 0), HIDDEN);
        withoutLand("run's grains", x -> x.run(0, 1), HIDDEN);
        withoutLand("image", x -> x.image(), NONE);
        withoutLand("back", x -> x.back(), NONE);
    }

    private static void promise01NothingCanBeAsked() {
        withoutLand("sky", x -> x.sky(0, 1, true), NONE);
        withoutLand("best", x -> x.best(0, 1, 0, 0), HIDDEN);
        withoutLand("journeys", x -> x.journeys(0, 1), NONE);
        withoutLand("waits", x -> x.waits(0, 1, 0), HIDDEN);
        withoutLand("ambush", x -> x.ambush(0, 1, 0), HIDDEN);
        withoutLand("ambush's place", x -> x.ambush(0, 1, 1), HIDDEN);
        withoutLand("pickets", x -> x.pickets(1, 1, 0, NONE), NONE);
        withoutLand("stock", x -> x.stock(1, 1), NONE);
        withoutLand("streak", x -> x.streak(0, 0), NONE);
        withoutLand("rained", x -> x.rained(0, 1, NONE), NONE);
    }

    /** Orders of one step with blanks behind it, so that the tape can be looked at by its fault. */
    private static SaltArmy withBytes(int n) {
        SaltArmy x = new SaltArmy();
        Checks.feed(x, "r" + Checks.repeat(" ", n - 1));
        return x;
    }

    private static void promise02TheTapeHas240Bytes() {
        SaltArmy x = new SaltArmy();
        for (int i = 1; i <= 12; i++) {
            c.due("feed", x.feed(0x20202020, 0x20202020, 0x20202020, 0x20202020, 0x20202072), 20 * i);
        }
        c.due("count", x.count(6), 240);
        c.due("the first step's end is a fault", x.fault(2), 39);
        for (int n = 220; n <= 240; n++) {
            c.due("twenty more than " + (n - 20), withBytes(n - 20).feed(-1, -1, -1, -1, -1), n);
        }
    }

    private static void promise02BytesMoreThan240AreRefused() {
        c.refused("one more than 240", () -> withBytes(240), x -> x.feed(0x3b, 0, 0, 0, 0), NONE);
        c.refused("the last byte more than 240", () -> withBytes(240), x -> x.feed(0, 0, 0, 0, 0x3b), NONE);
        c.refused("two more than 239", () -> withBytes(239), x -> x.feed(0x3b, 0, 0, 0, 0x3b), NONE);
        for (int n = 221; n <= 240; n++) {
            int bytes = n;
            c.refused("twenty more than " + n, () -> withBytes(bytes), x -> x.feed(-1, -1, -1, -1, -1), NONE);
        }
    }

    private static void promise02EachByteFrom1To255IsOneMoreThan240() {
        SaltArmy x = withBytes(240);
        for (int sign = 1; sign < 256; sign++) {
            c.due("byte " + sign + " on a full tape", x.feed(0, 0, sign << 8 * (sign % 4), 0, 0), NONE);
            c.due("it did not come", x.count(6), 240);
        }
        for (int sign = 1; sign < 256; sign++) {
            SaltArmy y = withBytes(239);
            c.due("byte " + sign + " and another on 239", y.feed(sign, sign << 24, 0, 0, 0), NONE);
            c.due("byte " + sign + " on 239", y.feed(0, 0, 0, 0, sign << 16), 240);
        }
    }

    private static void promise02NoneOfARefusedFeedsBytesComes() {
        SaltArmy x = withBytes(230);
        c.due("eleven more than 230", x.feed(0x3b3b3b3b, 0x3b3b3b3b, 0x3b3b3b00, 0, 0), NONE);
        c.due("none came", x.count(6), 230);
        c.due("none came", x.fault(2), NONE);
        c.due("ten more", x.feed(0x20202020, 0x20202020, 0x20200000, 0, 0), 240);
        c.due("they came", x.fault(2), NONE);
        c.due("not the eleven", x.end(231), true);
        c.due("not the eleven", x.fault(2), NONE);
    }

    private static void promise02BytesOfZeroAreLeftOut() {
        c.due("nothing on nothing", new SaltArmy().feed(0, 0, 0, 0, 0), 0);
        c.due("nothing on a full tape", withBytes(240).feed(0, 0, 0, 0, 0), 240);
        for (int at = 0; at < 20; at++) {
            int[] w = new int[5];
            w[at / 4] = 0x72 << 24 - at % 4 * 8;
            SaltArmy x = new SaltArmy();
            c.due("one at " + at, x.feed(w[0], w[1], w[2], w[3], w[4]), 1);
            c.due("one at " + at + " is orders", x.fault(2), NONE);
            c.due("one at " + at + " ends 239", withBytes(239).feed(w[0], w[1], w[2], w[3], w[4]), 240);
            for (int i = 0; i < 5; i++) {
                w[i] = ~(i == at / 4 ? 0xff << 24 - at % 4 * 8 : 0);
            }
            c.due("nineteen without " + at, new SaltArmy().feed(w[0], w[1], w[2], w[3], w[4]), 19);
        }
    }

    private static void promise02TheHighestByteComesFirst() {
        SaltArmy x = new SaltArmy();
        c.due("m12;j34;d5;s6;r;w;r;w", x.feed(0x6d31323b, 0x6a33343b, 0x64353b73, 0x363b723b, 0x773b723b), 20);
        c.due("w", x.feed(0x77, 0, 0, 0, 0), 21);
        c.due("orders", x.text(2), 0);
        int[] sorts = {0, 1, 2, 3, 4, 5, 4, 5};
        for (int i = 0; i < sorts.length; i++) {
            c.due("step " + i, x.step(0, i, 0), sorts[i]);
        }
        c.due("no ninth", x.step(0, 8, 0), NONE);
        c.due("first", x.step(0, 0, 1), 1);
        c.due("second", x.step(0, 0, 2), 2);
    }

    private static void promise02EachByteFrom1To255Comes() {
        SaltArmy x = new SaltArmy();
        for (int sign = 1; sign < 256; sign++) {
            x.end(0);
            c.due("byte " + sign, x.feed(sign << 24, 0, 0, 0, 0), 1);
        }
        for (int sign = 128; sign < 256; sign++) {
            x = new SaltArmy();
            Checks.feed(x, "r" + (char) sign);
            c.due("byte " + sign + " is no blank, no ;", x.fault(2), 1);
        }
    }

    private static void promise03TheTapeEndsFromNoneToAll() {
        c.due("none of none", new SaltArmy().end(0), true);
        for (int n = 0; n <= 5; n++) {
            SaltArmy x = new SaltArmy();
            Checks.feed(x, "m01;r");
            c.due("end " + n, x.end(n), true);
            c.due("bytes", x.count(6), n);
            int[] faults = {0, 1, 2, NONE, 4, NONE};
            c.due("the first " + n, x.fault(2), faults[n]);
        }
        SaltArmy x = withBytes(240);
        c.due("all of 240", x.end(240), true);
        c.due("all of 240", x.count(6), 240);
        c.due("none of 240", x.end(0), true);
        c.due("none of 240", x.count(6), 0);
    }

    private static void promise03AnEndBesideTheTapeIsFalse() {
        int[] beside = {LOW, -240, -2, -1, 6, 7, 240, 241, HIGH};
        for (int n : beside) {
            c.refused("end " + n, Scenes::busy, x -> x.end(n) ? 1 : 0, 0);
        }
        c.refused("end of nothing", SaltArmy::new, x -> x.end(1) ? 1 : 0, 0);
        c.refused("end of all", () -> withBytes(240), x -> x.end(241) ? 1 : 0, 0);
    }

    private static void promise03WhatIsBehindTheEndIsGone() {
        SaltArmy x = new SaltArmy();
        Checks.feed(x, "r;w;d0");
        c.due("end", x.end(1), true);
        c.due("gone", x.end(2), false);
        c.due("on from there", Checks.feed(x, ";d1"), 4);
        c.due("orders", x.text(2), 0);
        c.due("the second step", x.step(0, 1, 0) * 10 + x.step(0, 1, 1), 21);
        c.due("no third", x.step(0, 2, 0), NONE);
    }

    private static void promise04NoSuchSort() {
        int[] beside = {LOW, -2, -1, 3, 4, HIGH};
        for (int sort : beside) {
            c.refused("fault " + sort, Scenes::busy, x -> x.fault(sort), -2);
            c.refused("fault " + sort + " without a land", Scenes::withoutLand, x -> x.fault(sort), -2);
            c.due("fault " + sort + " of nothing", new SaltArmy().fault(sort), -2);
        }
    }

    private static void promise04AFaultChangesNothing() {
        String[] texts = {"p;p;c", "y:9", "s0;w", "p;p;w;wb0;c;f", "y:w>;", "r;r;x", ""};
        int[][] faults = {{NONE, 0, 0}, {0, NONE, 0}, {0, 0, NONE}, {13, 0, 0}, {0, 4, 0}, {0, 0, 4}, {0, 0, 0}};
        for (int i = 0; i < texts.length; i++) {
            String text = texts[i];
            for (int sort = 0; sort < 3; sort++) {
                int asked = sort;
                c.refused("fault " + sort + " of " + text, () -> withTape(text), x -> x.fault(asked), faults[i][sort]);
            }
        }
    }

    private static SaltArmy withTape(String text) {
        SaltArmy x = Scenes.busy();
        x.end(0);
        Checks.feed(x, text);
        return x;
    }

    private static void promise05NoSuchSort() {
        int[] beside = {LOW, -2, -1, 3, 4, HIGH};
        for (int sort : beside) {
            c.refused("text " + sort, Scenes::busy, x -> x.text(sort), NONE);
            c.refused("text " + sort + " of orders", () -> withTape("r"), x -> x.text(sort), NONE);
            c.refused("text " + sort + " of a law", () -> withTape("y:1"), x -> x.text(sort), NONE);
        }
    }

    private static void promise05AFaultIsRefused() {
        String[] texts = {"p;p;c;", "y:9;", "s0;w;", "p;p;w;wb0;c;f", "y:w>", "r;r;x", "p;c", "p;p", ""};
        for (String text : texts) {
            for (int sort = 0; sort < 3; sort++) {
                int asked = sort;
                c.refused("text " + sort + " of " + text, () -> withTape(text), x -> x.text(asked), NONE);
            }
        }
    }

    private static SaltArmy withFourTexts(String tape) {
        SaltArmy x = Checks.land(Scenes.LAND);
        for (int i = 0; i < 4; i++) {
            c.due("law " + i, Checks.text(x, 1, "y:" + (i + 1)), i);
            c.due("orders " + i, Checks.text(x, 2, "d" + i), i);
        }
        x.law(3);
        Checks.feed(x, tape);
        return x;
    }

    private static void promise05AFifthLawIsRefused() {
        c.refused("fifth law", () -> withFourTexts("y:9"), x -> x.text(1), NONE);
        SaltArmy x = withFourTexts("y:9");
        c.due("fifth law", x.text(1), NONE);
        for (int i = 0; i < 4; i++) {
            c.due("law " + i, x.law(i), true);
            c.due("wear by law " + i, x.wear(0), i + 1);
        }
        c.due("no fifth", x.law(4), false);
        c.due("the tape stays", x.count(6), 3);
        c.due("no fault", x.fault(1), NONE);
    }

    private static void promise05FifthOrdersAreRefused() {
        c.refused("fifth orders", () -> withFourTexts("w"), x -> x.text(2), NONE);
        SaltArmy x = withFourTexts("w");
        c.due("fifth orders", x.text(2), NONE);
        for (int i = 0; i < 4; i++) {
            c.due("orders " + i, x.step(i, 0, 0) * 10 + x.step(i, 0, 1), 20 + i);
        }
        c.due("no fifth", x.step(4, 0, 0), NONE);
        c.due("the tape stays", x.count(6), 1);
        c.due("no fault", x.fault(2), NONE);
    }

    private static void promise05FourOfOneSortAreNotFourOfTheOther() {
        SaltArmy x = new SaltArmy();
        for (int i = 0; i < 4; i++) {
            Checks.text(x, 1, "y:1");
        }
        c.due("orders", Checks.text(x, 2, "r"), 0);
        SaltArmy y = new SaltArmy();
        for (int i = 0; i < 4; i++) {
            Checks.text(y, 2, "r");
        }
        c.due("a law", Checks.text(y, 1, "y:1"), 0);
        c.due("a land behind four", Checks.text(withFourTexts(""), 0, "p;p;c"), 1);
        SaltArmy z = new SaltArmy();
        for (int i = 0; i < 6; i++) {
            c.due("a land " + i, Checks.text(z, 0, "p;p;c;c"), 2);
        }
    }

    /** What was read of a text with a fault is not there any more when the next one is read. */
    private static void promise05ATextBehindAFault() {
        String[] laws = {"y:9+", "y:g=1", "y:g>1?3;y:", "y:1=1&2=2|", "y:5;", "y:[[[[[[[1]]]]]]]"};
        int[] faults = {4, 5, 10, 10, 4, 8};
        for (int i = 0; i < laws.length; i++) {
            SaltArmy x = Checks.land(Scenes.LAND);
            c.due("fault of " + laws[i], Checks.fault(x, 1, laws[i]), faults[i]);
            c.due("text of " + laws[i], x.text(1), NONE);
            c.due("law behind " + laws[i], Checks.text(x, 1, "y:w-3"), 0);
            x.law(0);
            c.due("wear behind " + laws[i], x.wear(0), 2);
        }
        SaltArmy x = new SaltArmy();
        c.due("fault of orders", Checks.fault(x, 2, "m12;j34;d5;"), 11);
        c.due("orders behind it", Checks.text(x, 2, "r"), 0);
        c.due("their step", x.step(0, 0, 0), 4);
        c.due("it has no digits", x.step(0, 0, 1), NONE);
        c.due("no second step", x.step(0, 1, 0), NONE);
        c.due("fault of a land", Checks.fault(x, 0, "ph9;pr9;p;wt9;cg9;fb9;"), 22);
        c.due("no land yet", x.count(0), 0);
        c.due("land behind it", Checks.text(x, 0, "p;p;c"), 1);
        c.due("two places", x.count(0), 2);
        c.due("no way, no foe", x.count(1) + x.count(3), 0);
        c.due("its height", x.spot(0, 0), 0);
        c.due("its rain", x.spot(1, 2), 20);
        c.due("its grains", Checks.grains(x, 0), 50);
    }

    private static void promise05TheTapeIsEmptyThen() {
        String[] texts = {"p;p;c", "y:1", "r"};
        for (int sort = 0; sort < 3; sort++) {
            SaltArmy x = new SaltArmy();
            Checks.text(x, sort, texts[sort]);
            c.due("bytes behind " + texts[sort], x.count(6), 0);
            c.due("fault behind " + texts[sort], x.fault(sort), 0);
            c.due("240 fit again", Checks.feed(x, Checks.repeat("r", 240)), 240);
        }
    }

    private static void promise05AllOfAnotherLandIsGone() {
        SaltArmy x = Scenes.busy();
        c.due("companies", Checks.text(x, 0, "p;p;p;p;c"), 1);
        int[] want = {4, 0, 1, 0, 2, 1, 0, 1, 0, 1, 0, 0, 50, 0, 0, 0, 0};
        for (int what = 0; what < want.length; what++) {
            c.due("count " + what, x.count(what), want[what]);
        }
        for (int place = 0; place < 4; place++) {
            c.due("ground " + place, x.spot(place, 4), 0);
            c.due("known " + place, x.spot(place, 5), 0);
        }
        c.due("no undo", x.undo(), NONE);
        c.due("no image", x.back(), NONE);
        c.due("no log", x.log(0, 0), NONE);
        c.due("no second company", Checks.company(x, 1, 0), Checks.THROWN);
        c.due("no way", x.way(0, 0), NONE);
        c.due("no foe", x.foe(0, 0), NONE);
        c.due("the law that holds", x.wear(0), 2);
        c.due("orders", x.step(0, 0, 0), 4);
    }

    private static void promise05TheSameLandAgainIsNew() {
        SaltArmy x = Scenes.busy();
        c.due("companies", Checks.text(x, 0, Scenes.LAND), 4);
        c.due("hour", x.count(8), 0);
        c.due("grains", Checks.grains(x, 3), 3);
        c.due("buckets", x.foe(0, 1), 9);
        c.due("no image", x.back(), NONE);
        c.due("no sky: by rain", x.best(0, 1, 2, 0), 50000 - 2000 - 3000);
        c.due("no streaks: any", x.rained(0, 1, NONE), 4);
    }
}
