/** Promises 12 to 19, 21, 22, 37 to 39: acts, hours, wars, what is undone, orders done, images. */
public final class ActsTest {
    private static final Checks c = new Checks();
    private static final int NONE = SaltArmy.NONE;
    private static final int HIDDEN = SaltArmy.HIDDEN;

    public static void main(String[] args) {
        marches();
        joins();
        digs();
        casts();
        rain();
        fords();
        buckets();
        dew();
        gone();
        wars();
        logs();
        undone();
        runs();
        images();
        counts();
        c.end();
    }

    private static void company(String what, SaltArmy x, int company, int place, int left, int grains) {
        c.due(what + ": place", Checks.company(x, company, 0), place);
        c.due(what + ": hours more", Checks.company(x, company, 1), left);
        c.due(what + ": grains", Checks.company(x, company, 2), grains);
    }

    private static void marches() {
        SaltArmy x = Checks.land("p;p;p;wa1b0t3;wt1;cg20;cp1g30");
        c.due("no such company", x.march(2, 0), NONE);
        c.due("no such company", x.march(-1, 0), NONE);
        c.due("no such place", x.march(0, 3), NONE);
        c.due("no such place", x.march(0, -1), NONE);
        c.due("no way", x.march(0, 2), NONE);
        c.due("not to where it is", x.march(0, 0), NONE);
        c.due("nothing was done", x.count(15), 0);
        c.due("by the lowest way, told the other way round", x.march(0, 1), 3);
        company("on the way", x, 0, 1, 3, 20);
        c.due("not from a way", x.march(0, 0), NONE);
        c.due("the other one, too", x.march(1, 0), 3);
        x.hour(0);
        company("on the way", x, 0, 1, 2, 20);
        x.hour(0);
        company("on the way", x, 0, 1, 1, 20);
        x.hour(0);
        company("there", x, 0, 1, 0, 20);
        company("there", x, 1, 0, 0, 30);
        c.due("acts", x.count(15), 5);
        SaltArmy y = Checks.land("p;p;w;cg5w5");
        y.hour(1);
        c.due("one that is gone", y.march(0, 1), NONE);
    }

    private static void joins() {
        SaltArmy x = Checks.land("p;p;w;cg60q1;cg50q6;cp1q8;cg1w9q2");
        c.due("alike", x.join(0, 0), NONE);
        c.due("no such one", x.join(0, 4), NONE);
        c.due("no such one", x.join(-1, 0), NONE);
        c.due("elsewhere", x.join(0, 2), NONE);
        c.due("together 99 at most", x.join(0, 1), 99);
        c.due("what is over", x.spot(0, 4), 11);
        c.due("known by both", Checks.company(x, 0, 5), 7);
        c.due("nothing is told to the ground", x.spot(0, 5), 0);
        company("gone", x, 1, 0, 0, 0);
        c.due("a gone one knows nothing", Checks.company(x, 1, 5), 0);
        c.due("all grains", x.count(12), 161);
        c.due("with one that is gone", x.join(0, 1), NONE);
        c.due("with one that is gone", x.join(1, 0), NONE);
        c.due("to the higher one", x.join(3, 0), 99);
        c.due("what is over", x.spot(0, 4), 12);
        c.due("known by both", Checks.company(x, 3, 5), 7);
        x.march(2, 0);
        c.due("not with one on a way", x.join(3, 2), NONE);
        c.due("not to one on a way", x.join(2, 3), NONE);
        x.hour(0);
        c.due("there now", x.join(2, 3), 99);
        c.due("known by both", Checks.company(x, 2, 5), 15);
        c.due("one lives", x.count(9), 1);
        c.due("four are there", x.count(2), 4);
    }

    private static void digs() {
        SaltArmy x = Checks.land("ps9;p;w;cg85;cp1;cg99");
        c.due("no such one", x.dig(3), NONE);
        c.due("no such one", x.dig(-1), NONE);
        c.due("no salt", x.dig(1), NONE);
        c.due("it has 99", x.dig(2), NONE);
        c.due("dig", x.dig(0), 94);
        c.due("99 at most", x.dig(0), 99);
        c.due("what was dug", x.count(11), 14);
        c.due("all grains", x.count(12), 85 + 50 + 99 + 14);
        c.due("it has 99", x.dig(0), NONE);
        c.due("salt stays", x.spot(0, 3), 9);
        x.hour(1);
        x.march(0, 1);
        c.due("not on a way", x.dig(0), NONE);
        x.undo();
        c.due("at the place", x.dig(0), 99);
    }

    private static void casts() {
        SaltArmy x = Checks.land("p;p;w;cg90q1;cg99q2;cg60q4;cg6q8");
        c.due("nothing lies there", x.cast(0, 0), NONE);
        x.join(0, 1);
        x.join(0, 2);
        c.due("lies", x.spot(0, 4), 150);
        c.due("no such place", x.cast(2, 0), NONE);
        c.due("no such place", x.cast(-1, 0), NONE);
        c.due("no such mould", x.cast(0, 4), NONE);
        c.due("no such mould", x.cast(0, -1), NONE);
        Checks.text(x, 1, "y:g=6?6;y:0");
        x.law(0);
        x.hour(1);
        c.due("known on the ground", x.spot(0, 5), 8);
        c.due("cast", x.cast(0, 3), 4);
        company("cast", x, 4, 0, 0, 99);
        c.due("wear", Checks.company(x, 4, 3), 5);
        c.due("mould", Checks.company(x, 4, 4), 3);
        c.due("knows", Checks.company(x, 4, 5), 8);
        c.due("the rest stays", x.spot(0, 4), 57);
        c.due("nothing is known there then", x.spot(0, 5), 0);
        c.due("the rest", x.cast(0, 0), 5);
        company("cast", x, 5, 0, 0, 57);
        c.due("knows nothing", Checks.company(x, 5, 5), 0);
        x.join(0, 4);
        c.due("six", x.cast(0, 1), 6);
        x.join(0, 6);
        c.due("seven", x.cast(0, 1), 7);
        x.join(0, 7);
        c.due("lies", x.spot(0, 4), 99);
        c.due("there are eight", x.cast(0, 1), NONE);
        c.due("eight", x.count(2), 8);
        c.due("all grains", x.count(12), 90 + 99 + 60 + 6);
    }

    private static void rain() {
        SaltArmy x = Checks.land("pk1;ph3;p;w;wa1b2t2;cg20;cp1g20;cp2g20w9;cg20w3");
        c.due("no such set", x.hour(8), NONE);
        c.due("no such set", x.hour(-1), NONE);
        c.due("hour stays", x.count(8), 0);
        c.due("everywhere", x.hour(7), 1);
        company("under a roof", x, 0, 0, 0, 20);
        company("a third of the height less", x, 1, 1, 0, 16);
        company("wear", x, 2, 2, 0, 11);
        c.due("ground", x.spot(0, 4), 0);
        c.due("ground", x.spot(1, 4), 4);
        c.due("ground", x.spot(2, 4), 9);
        x.march(0, 1);
        x.march(1, 0);
        x.march(2, 1);
        c.due("second", x.hour(1), 2);
        company("under a roof", x, 3, 0, 0, 20);
        company("on the way to a roof it is wet", x, 1, 0, 0, 11);
        c.due("it lies where it goes to", x.spot(0, 4), 5);
        company("dry where it goes to", x, 0, 1, 0, 20);
        company("half way", x, 2, 1, 1, 11);
        c.due("third", x.hour(2), 3);
        company("height of where it goes to", x, 2, 1, 0, 3);
        company("wet", x, 0, 1, 0, 16);
        c.due("ground", x.spot(1, 4), 4 + 8 + 4);
        c.due("no more than it has", x.hour(2), 4);
        company("gone", x, 2, 1, 0, 0);
        c.due("ground", x.spot(1, 4), 16 + 3 + 4);
        c.due("log lost", x.log(0, 1), 7);
        c.due("log gone", x.log(0, 2), 1);
        c.due("all grains", x.count(12), 80);
    }

    private static void fords() {
        SaltArmy x = Checks.land("p;p;wt2f9;cg8q3;cg30q4;cp1g9w9q8");
        x.march(0, 1);
        x.march(1, 1);
        x.march(2, 0);
        x.hour(0);
        c.due("the river is behind the last hour", x.count(10), 0);
        x.hour(1);
        company("rain on the way ahead of the ford", x, 2, 0, 1, 0);
        c.due("known on the ground", x.spot(0, 5), 8);
        company("gone in the ford", x, 0, 1, 0, 0);
        company("through the ford", x, 1, 1, 0, 21);
        c.due("river", x.count(10), 17);
        c.due("lost in the river", x.spot(1, 5), 0);
        c.due("lost in the river", x.knows(0), 0);
        c.due("log lost", x.log(0, 1), 26);
        c.due("log gone", x.log(0, 2), 2);
        c.due("all grains", x.count(12), 47);
    }

    private static void buckets() {
        SaltArmy x = Checks.land("pk1;p;w;cg7q1;cg20q2;cp1g30;f;fb1;fp1b9");
        x.march(2, 0);
        x.hour(0);
        company("who comes is there; the first foe's, the second's bucket", x, 0, 0, 0, 0);
        company("the next one is only struck by the next hour", x, 1, 0, 0, 20);
        c.due("known there", x.spot(0, 5), 1);
        c.due("ground", x.spot(0, 4), 7);
        c.due("buckets", x.foe(0, 1), 1);
        c.due("buckets", x.foe(1, 1), 0);
        c.due("nobody is there", x.foe(2, 1), 9);
        x.hour(0);
        company("struck", x, 1, 0, 0, 15);
        company("not struck", x, 2, 0, 0, 30);
        c.due("no more", x.foe(0, 1), 0);
        x.hour(0);
        company("no bucket", x, 1, 0, 0, 15);
        x.march(1, 1);
        x.march(2, 1);
        x.hour(0);
        company("struck as it comes", x, 1, 1, 0, 10);
        c.due("log", x.log(0, 1), 5);
        SaltArmy y = Checks.land("p;p;wt2;c;f");
        y.march(0, 1);
        y.hour(0);
        c.due("not on a way", y.foe(0, 1), 2);
        SaltArmy z = Checks.land("p;p;w;cg3;cg20;fb1;fb2");
        z.hour(0);
        company("a second foe strikes the next that lives", z, 1, 0, 0, 15);
        c.due("buckets", z.foe(1, 1), 1);
    }

    private static void dew() {
        SaltArmy x = Checks.land("pk1;p;wt9;cg9q1;cp1g9q2;cp1g1q4;cg9q8;cp1g7");
        x.march(3, 1);
        x.march(4, 0);
        for (int i = 1; i <= 5; i++) {
            x.hour(0);
        }
        company("no dew yet", x, 2, 1, 0, 1);
        x.hour(0);
        company("under a roof", x, 0, 0, 0, 9);
        company("dew", x, 1, 1, 0, 8);
        company("gone by dew", x, 2, 1, 0, 0);
        company("on a way", x, 3, 1, 3, 8);
        company("on a way to a roof", x, 4, 0, 3, 6);
        c.due("on the ground", x.spot(1, 4), 3);
        c.due("on the ground where it goes to", x.spot(0, 4), 1);
        c.due("known", x.spot(1, 5), 4);
        c.due("log", x.log(0, 1), 4);
        c.due("log", x.log(0, 2), 1);
        for (int i = 7; i <= 12; i++) {
            c.due("an hour", x.hour(0), i);
        }
        company("dew again", x, 1, 1, 0, 7);
        company("there", x, 4, 0, 0, 6);
    }

    private static void gone() {
        SaltArmy x = Checks.land("p;p;wt2;cg5q3;cg9w9q4;f");
        x.march(0, 1);
        x.hour(2);
        company("gone on the way", x, 0, 1, 2, 0);
        c.due("known where it went", x.spot(1, 5), 3);
        c.due("it knows nothing", Checks.company(x, 0, 5), 0);
        c.due("lies where it went", x.spot(1, 4), 5);
        c.due("wear of one that is gone", x.wear(0), NONE);
        x.hour(1);
        company("gone", x, 1, 0, 0, 0);
        c.due("known there", x.spot(0, 5), 4);
        c.due("nobody lives", x.count(9), 0);
        c.due("hours go on", x.hour(3), 3);
        c.due("log", x.log(0, 0), 3);
        c.due("log", x.log(0, 1), 0);
        c.due("log", x.log(0, 2), 0);
    }

    private static void wars() {
        SaltArmy x = Checks.land("pr50;pr0;pr99;w;cg99w1");
        c.due("out of bounds", x.war(0, 1), NONE);
        c.due("out of bounds", x.war(-1, 1), NONE);
        c.due("out of bounds", x.war(49, 1), NONE);
        c.due("hour stays", x.count(8), 0);
        long seed = -987654321012345678L;
        c.due("war", x.war(48, seed), 48);
        long draw = seed;
        for (int hour = 0; hour < 48; hour++) {
            int rains = 0;
            int[] chances = {50, 0, 99};
            for (int place = 0; place < 3; place++) {
                draw = draw * 6364136223846793005L + 1442695040888963407L;
                if ((draw >>> 33) % 100 < chances[place]) {
                    rains |= 1 << place;
                }
            }
            c.due("war hour " + hour, x.log(47 - hour, 0), rains);
        }
        c.due("acts", x.count(15), 40);
        c.due("log", x.count(16), 48);
        c.due("again from the seed", x.war(1, seed), 49);
        c.due("again from the seed", x.log(0, 0), x.log(48, 0));
        c.due("all grains", x.count(12), 99);
        SaltArmy y = Checks.land("p;p;c");
        y.war(2, 5);
        c.due("each is an act", y.undo(), 1);
        c.due("hour", y.count(8), 1);
    }

    private static void logs() {
        SaltArmy x = Checks.land("p;p;cg99w0");
        for (int i = 0; i < 70; i++) {
            x.hour(i % 4);
        }
        c.due("60 at most", x.count(16), 60);
        for (int i = 0; i < 60; i++) {
            c.due("log " + i, x.log(i, 0), (69 - i) % 4);
            c.due("log " + i, x.log(i, 1), (70 - i) % 6 == 0 ? 1 : 0);
        }
        c.due("no such one", x.log(60, 0), NONE);
        c.due("no such one", x.log(-1, 0), NONE);
        c.due("no such what", x.log(0, 3), NONE);
        c.due("no such what", x.log(0, -1), NONE);
        x.undo();
        c.due("still 60", x.count(16), 60);
        c.due("the latest is undone", x.log(0, 0), 0);
        c.due("the oldest is there again", x.log(59, 0), 69 % 4 == 1 ? 9 % 4 : NONE);
        for (int i = 0; i < 39; i++) {
            x.undo();
        }
        c.due("no more can be undone", x.undo(), NONE);
        c.due("log of 30", x.count(16), 30);
        c.due("log", x.log(29, 0), 0);
        c.due("log", x.log(30, 0), NONE);
    }

    private static void undone() {
        SaltArmy x = Checks.land("ps5;p;wf2;cg10w1q1;cg10w1q2;fb1");
        c.due("none", x.undo(), NONE);
        x.march(0, 1);
        x.hour(2);
        x.dig(1);
        x.hour(1);
        x.march(0, 0);
        x.hour(0);
        x.join(0, 1);
        x.cast(0, 2);
        c.due("eight", x.count(15), 8);
        c.due("cast", x.count(2), 3);
        c.due("not cast", x.undo(), 7);
        c.due("not cast", x.count(2), 2);
        c.due("on the ground again", x.spot(0, 4), 5 + 1);
        c.due("not joined", x.undo(), 6);
        company("not joined", x, 0, 0, 0, 10 - 1 - 2 - 2);
        company("not joined", x, 1, 0, 0, 10 - 5 + 5 - 1);
        c.due("knows", Checks.company(x, 1, 5), 2);
        c.due("river", x.count(10), 4);
        c.due("not there", x.undo(), 5);
        company("not there", x, 0, 0, 1, 7);
        c.due("river", x.count(10), 2);
        c.due("not gone", x.undo(), 4);
        company("not gone", x, 0, 1, 0, 7);
        c.due("not rained", x.undo(), 3);
        company("not rained", x, 1, 0, 0, 10);
        c.due("log", x.count(16), 1);
        c.due("not dug", x.undo(), 2);
        c.due("not dug", x.count(11), 0);
        c.due("not struck", x.undo(), 1);
        c.due("not struck", x.foe(0, 1), 1);
        c.due("hour 0", x.count(8), 0);
        c.due("log", x.log(0, 0), NONE);
        c.due("not gone", x.undo(), 0);
        company("at first", x, 0, 0, 0, 10);
        c.due("none", x.undo(), NONE);
        c.due("all grains", x.count(12), 20);
        fortyOnly();
    }

    private static void fortyOnly() {
        SaltArmy x = Checks.land("p;p;cg99w0");
        for (int i = 0; i < 45; i++) {
            x.hour(0);
        }
        c.due("forty", x.count(15), 40);
        c.due("refused, when full", x.march(0, 1), NONE);
        for (int i = 39; i >= 0; i--) {
            c.due("undo", x.undo(), i);
        }
        c.due("hour 5", x.count(8), 5);
        c.due("none", x.undo(), NONE);
        for (int i = 0; i < 3; i++) {
            x.hour(0);
        }
        c.due("three", x.undo(), 2);
        c.due("hour 7", x.count(8), 7);
    }

    private static void runs() {
        SaltArmy x = Checks.land("ps3;p;wt2;cg20;cp1g9w9;cg10");
        Checks.text(x, 2, "m01;r;w;j01;d2;s1;w");
        Checks.text(x, 2, "d2;j20;s0;r");
        Checks.text(x, 2, "r;w;d2");
        Checks.text(x, 2, "m91;r");
        c.due("can't be", x.run(0, 0), 3);
        c.due("grains", x.run(0, 1), 20 + 0 + 10 - 10);
        c.due("apart", x.count(8), 0);
        c.due("apart", x.count(15), 0);
        c.due("s of nothing", x.run(1, 0), 2);
        c.due("grains", x.run(1, 1), 33 + 9);
        c.due("all can be", x.run(2, 0), NONE);
        c.due("grains", x.run(2, 1), 15 + 0 + 8);
        c.due("no such company", x.run(3, 0), 0);
        c.due("grains", x.run(3, 1), 39);
        c.due("no such what", x.run(0, 2), HIDDEN);
        c.due("no such what", x.run(0, -1), HIDDEN);
        c.due("no such orders", x.run(4, 0), HIDDEN);
        c.due("no such orders", x.run(-1, 0), HIDDEN);
        c.due("no such orders", x.perform(4), NONE);
        c.due("no such orders", x.perform(-1), NONE);
        c.due("nothing can be done", x.perform(3), 0);
        c.due("no act", x.count(15), 0);
        c.due("done", x.perform(0), 3);
        c.due("acts", x.count(15), 3);
        c.due("hour", x.count(8), 2);
        c.due("rain everywhere", x.log(0, 0), 3);
        c.due("no rain", x.log(1, 0), 0);
        company("there", x, 0, 1, 0, 15);
        c.due("cast by a step", Checks.text(x, 2, "s1"), NONE);
        SaltArmy y = Checks.land("p;p;c");
        y.hour(1);
        Checks.text(y, 2, "s 0");
        c.due("cast by a step", y.perform(0), 1);
        c.due("of mould 0", Checks.company(y, 1, 4), 0);
        c.due("grains", Checks.company(y, 1, 2), 5);
        c.due("run now", y.run(0, 0), 0);
    }

    private static void images() {
        SaltArmy x = Checks.land("ps3;p;wt2f1;cg20q5;cp1g9;f");
        c.due("no image", x.back(), NONE);
        x.march(0, 1);
        x.hour(3);
        c.due("image", x.image(), 1);
        c.due("acts stay", x.count(15), 2);
        x.sky(0, 1, true);
        x.streak(1, 2);
        Checks.text(x, 1, "y:1");
        Checks.text(x, 2, "r");
        x.law(0);
        Checks.feed(x, "p;p");
        x.hour(3);
        x.hour(3);
        x.cast(1, 1);
        x.war(20, 3);
        c.due("back", x.back(), 1);
        company("as it was", x, 0, 1, 1, 15);
        company("as it was", x, 1, 1, 0, 4);
        c.due("companies", x.count(2), 2);
        c.due("log", x.count(16), 1);
        c.due("log", x.log(0, 1), 10);
        c.due("river", x.count(10), 0);
        c.due("sky stays", x.count(13), 1);
        c.due("streaks stay", x.count(14), 1);
        c.due("laws stay", x.count(4), 1);
        c.due("which holds stays", x.count(7), 0);
        c.due("orders stay", x.count(5), 1);
        c.due("the tape stays", x.count(6), 3);
        c.due("no act can be undone", x.count(15), 0);
        c.due("no act can be undone", x.undo(), NONE);
        x.hour(0);
        c.due("back again", x.back(), 1);
        x.hour(0);
        x.hour(0);
        c.due("instead of the one ahead", x.image(), 3);
        x.undo();
        c.due("back", x.back(), 3);
        c.due("all grains", x.count(12), 29);
        logOfImage();
    }

    private static void logOfImage() {
        SaltArmy x = Checks.land("p;p;c");
        for (int i = 0; i < 61; i++) {
            x.hour(i % 4);
        }
        x.image();
        x.war(48, 1);
        x.back();
        c.due("log", x.count(16), 60);
        c.due("log", x.log(0, 0), 0);
        c.due("log", x.log(59, 0), 1);
    }

    private static void counts() {
        SaltArmy x = Checks.land("pk1;p;p;w;wb2;cg20;cg30;fp2;fp2;fp2");
        int[] want = {3, 2, 2, 3, 0, 0, 0, NONE, 0, 2, 0, 0, 50, 0, 0, 0, 0};
        for (int what = 0; what < want.length; what++) {
            c.due("count " + what, x.count(what), want[what]);
        }
        c.due("count 17", x.count(17), HIDDEN);
        c.due("count -1", x.count(-1), HIDDEN);
        x.join(0, 1);
        c.due("companies with gone ones", x.count(2), 2);
        c.due("who live", x.count(9), 1);
    }
}
