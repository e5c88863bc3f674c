/** Promises 1 to 5, 10, 11 (by laws) and 20: the tape, faults, lands, laws, orders. */
public final class TextsTest {
    private static final Checks c = new Checks();
    private static final int NONE = SaltArmy.NONE;

    public static void main(String[] args) {
        newObject();
        tape();
        landFaults();
        lawFaults();
        ordersFaults();
        texts();
        landTold();
        worths();
        lawsThatHold();
        steps();
        c.end();
    }

    private static void newObject() {
        SaltArmy x = new SaltArmy();
        for (int what = 0; what <= 16; what++) {
            c.due("new: count " + what, x.count(what), what == 7 ? NONE : 0);
        }
        c.due("new: count -1", x.count(-1), SaltArmy.HIDDEN);
        c.due("new: count 17", x.count(17), SaltArmy.HIDDEN);
        c.due("new: back", x.back(), NONE);
        c.due("new: log", x.log(0, 0), NONE);
        c.due("new: foe", x.foe(0, 0), NONE);
        c.due("new: step", x.step(0, 0, 0), NONE);
        c.due("new: fault of nothing", x.fault(0), 0);
        c.due("new: fault of nothing", x.fault(1), 0);
        c.due("new: fault of nothing", x.fault(2), 0);
    }

    private static void tape() {
        SaltArmy x = new SaltArmy();
        c.due("feed of zeros", x.feed(0, 0, 0, 0, 0), 0);
        c.due("feed leaves out 0", x.feed(0x70000000, 0x00003b00, 0x00700000, 0, 0x0000003b), 4);
        c.due("feed: highest first", x.feed(0x63_00_00_00, 0, 0, 0, 0), 5);
        c.due("fed p;p;c", x.fault(0), NONE);
        c.due("high bytes", x.feed(-1, 0, 0, 0, 0), 9);
        c.due("a byte of 255 is a fault", x.fault(0), 5);
        c.due("end too far", x.end(10), false);
        c.due("end below 0", x.end(-1), false);
        c.due("count stays", x.count(6), 9);
        c.due("end at all", x.end(9), true);
        c.due("end", x.end(5), true);
        c.due("count", x.count(6), 5);
        c.due("again without a fault", x.fault(0), NONE);
        c.due("end(6) then", x.end(6), false);
        x.end(0);
        for (int i = 1; i <= 11; i++) {
            c.due("fill", x.feed(0x3b3b3b3b, 0x3b3b3b3b, 0x3b3b3b3b, 0x3b3b3b3b, 0x3b3b3b3b), 20 * i);
        }
        c.due("fill", x.feed(0x3b3b3b3b, 0x3b3b3b3b, 0x3b3b3b3b, 0x3b3b3b3b, 0x3b3b3b00), 239);
        c.due("two more are too many", x.feed(0x3b3b0000, 0, 0, 0, 0), NONE);
        c.due("nothing came", x.count(6), 239);
        c.due("one more", x.feed(0, 0, 0, 0, 0x3b), 240);
        c.due("none more", x.feed(0, 0, 0, 0, 0), 240);
        c.due("one is too many", x.feed(0, 0, 1, 0, 0), NONE);
        c.due("one is too many", x.feed(1, 0, 0, 0, 0), NONE);
        c.due("one is too many", x.feed(0, 1, 0, 0, 0), NONE);
        c.due("one is too many", x.feed(0, 0, 0, 1, 0), NONE);
        c.due("one is too many", x.feed(0, 0, 0, 0, 1), NONE);
        c.due("still", x.count(6), 240);
    }

    private static void landFault(String text, int want) {
        c.due("land " + text, Checks.fault(new SaltArmy(), 0, text), want);
    }

    private static void landFaults() {
        landFault("", 0);
        landFault("   ", 3);
        landFault("p;p;c", NONE);
        landFault("c;p;p", NONE);
        landFault("f;w;c;p;p", NONE);
        landFault("p;;p;c", 2);
        landFault("p;p;c;;", 6);
        landFault(";p;p;c", 0);
        landFault("p;p;c  ;  ", 10);
        landFault("P;p;c", 0);
        landFault("p p;c", 2);
        landFault("ph", 2);
        landFault("ph;p;c", 2);
        landFault("ph h1;p;c", 3);
        landFault("ph9k1r99s9;ph09k01r00s00;cp1g99w9m3q15", NONE);
        landFault("ph0k0r0s0;p;wa0b1t1f0;cp0g1w0m0q0;fp0b0", NONE);
        landFault("p;p;c;wb0a1", NONE);
        landFault("p;p;c;wa8b1", 8);
        landFault("p;p;c;fp8", 8);
        landFault("ph10;p;c", 3);
        landFault("ph 1 0;p;c", 5);
        landFault("ph123;p;c", 4);
        landFault("ph009;p;c", 4);
        landFault("pk2", 2);
        landFault("pk02", 3);
        landFault("ps10", 3);
        landFault("pr99", 4);
        landFault("pr100", 4);
        landFault("pa1", 1);
        landFault("ph1h1", 3);
        landFault("ph1r1k1s1h", 9);
        landFault("p;p;c;wa0b1t9f9", NONE);
        landFault("p;p;c;wb0a1", NONE);
        landFault("p;p;c;wa0b0", 11);
        landFault("p;p;c;wb0", 9);
        landFault("p;p;c;wb0;x", 10);
        landFault("p;p;c;wb0;p", 11);
        landFault("w;wb7;p;p;p;p;p;p;p;p;c", NONE);
        landFault("w;wb7;p;p;p;p;p;p;p;c", 21);
        landFault("p;p;c;wb8", 8);
        landFault("p;p;c;wb71", 9);
        landFault("p;p;c;wt10", 9);
        landFault("p;p;c;wt00", 9);
        landFault("p;p;c;wt09", NONE);
        landFault("p;p;c;wf10", 9);
        landFault("p;p;c;wh1", 7);
        landFault("p;p;cg00", 7);
        landFault("p;p;cg01", NONE);
        landFault("p;p;cg100", 8);
        landFault("p;p;cw10", 7);
        landFault("p;p;cm4", 6);
        landFault("p;p;cq15", NONE);
        landFault("p;p;cq16", 7);
        landFault("p;p;cp8", 6);
        landFault("p;p;cp2", 7);
        landFault("p;p;cb1", 5);
        landFault("p;p;c;fb9p1", NONE);
        landFault("p;p;c;fb10", 9);
        landFault("p;p;c;fp2", 9);
        landFault("p;p;c;fg1", 7);
        landFault("p;p;p;p;p;p;p;p;c", NONE);
        landFault("p;p;p;p;p;p;p;p;c;p", 18);
        landFault("p;p;c;w;w;w;w;w;w;w;w;w;w;w;w", NONE);
        landFault("p;p;c;w;w;w;w;w;w;w;w;w;w;w;w;w", 30);
        landFault("p;p;c;c;c;c;c", NONE);
        landFault("p;p;c;c;c;c;c;c", 14);
        landFault("p;p;c;f;f;f", NONE);
        landFault("p;p;c;f;f;f;f", 12);
        landFault("p;p;c" + (char) 9, 5);
        SaltArmy x = new SaltArmy();
        c.due("fault -1", x.fault(-1), -2);
        c.due("fault 3", x.fault(3), -2);
    }

    private static void lawFault(String text, int want) {
        c.due("law " + text, Checks.fault(new SaltArmy(), 1, text), want);
    }

    private static void lawFaults() {
        lawFault("", 0);
        lawFault("y", 1);
        lawFault("y:", 2);
        lawFault("y: ", 3);
        lawFault("x:1", 0);
        lawFault("y1", 1);
        lawFault("y:1", NONE);
        lawFault(" y : 1 ", NONE);
        lawFault("y:1;", 4);
        lawFault("y:1;y:2", NONE);
        lawFault("y:1;;y:2", 4);
        lawFault("y:1 2", 4);
        lawFault("y:9999", NONE);
        lawFault("y:00000", 6);
        lawFault("y:g+w-h*m/t", NONE);
        lawFault("y:q", 2);
        lawFault("y:-1", 2);
        lawFault("y:1+", 4);
        lawFault("y:1+-1", 4);
        lawFault("y:gw", 3);
        lawFault("y:g1", 3);
        lawFault("y:[1", 4);
        lawFault("y:[1]", NONE);
        lawFault("y:[1)", 4);
        lawFault("y:[]", 3);
        lawFault("y:[g>1]?1", 4);
        lawFault("y:g?1", 3);
        lawFault("y:g&1", 3);
        lawFault("y:g>1", 5);
        lawFault("y:g>1;y:1", 5);
        lawFault("y:g>1?", 6);
        lawFault("y:g>1?2", NONE);
        lawFault("y:g>1?2?3", 7);
        lawFault("y:g>1?2>3", 7);
        lawFault("y:g>1>2?3", 5);
        lawFault("y:g>1&w", 7);
        lawFault("y:g>1&w<2|m=1?t", NONE);
        lawFault("y:g>=1?1", 4);
        lawFault("y:(g>1)", 7);
        lawFault("y:(g>1)?2", NONE);
        lawFault("y:(g)>1?2", 4);
        lawFault("y:(1", 4);
        lawFault("y:(g>1?2", 6);
        lawFault("y:(g>1)+1?2", 7);
        lawFault("y:(g>1)&(w<1)|!m=1?2", NONE);
        lawFault("y:!g=1?2", NONE);
        lawFault("y:!1?2", 4);
        lawFault("y:!;", 3);
        lawFault("y:g=(1)?2", 4);
        lawFault("y:g=!1?2", 4);
        lawFault("y:1+(1)", 4);
        lawFault("y:!!!!!!g=1?1", NONE);
        lawFault("y:!!!!!!!g=1?1", 8);
        lawFault("y:!!!!!!(g=1)?1", 8);
        lawFault("y:!!!!!![g]=1?1", 8);
        lawFault("y:!!!!!(g=1)&g=1?1", NONE);
        lawFault("y:!!!!!([g]=1)?1", 8);
        lawFault("y:[[[[[[1]]]]]]", NONE);
        lawFault("y:[[[[[[[1]]]]]]]", 8);
        lawFault("y:[[[[[[1]]]]]]+[[[[[[1]]]]]]", NONE);
        lawFault("y:((((((g=1))))))?1", NONE);
        lawFault("y:(((((((g=1)))))))?1", 8);
        lawFault("y:!!!!!!g=[1]?1", 10);
        lawFault("y:!!!!!g=[1]?1", NONE);
        lawFault("y:!!!!!!g=1&[1]=1?[[[[[[1]]]]]]", NONE);
        lawFault("y:(g=1)|(g=1&(g=2)?1", 18);
    }

    private static void ordersFault(String text, int want) {
        c.due("orders " + text, Checks.fault(new SaltArmy(), 2, text), want);
    }

    private static void ordersFaults() {
        ordersFault("", 0);
        ordersFault("  ", 2);
        ordersFault("m99;j99;d9;s9;r;w", NONE);
        ordersFault("m", 1);
        ordersFault("m1;", 2);
        ordersFault("m1", 2);
        ordersFault("m 1 2 ; r", NONE);
        ordersFault("m123", 3);
        ordersFault("mr", 1);
        ordersFault("d12", 2);
        ordersFault("s", 1);
        ordersFault("r1", 1);
        ordersFault("w;", 2);
        ordersFault(";r", 0);
        ordersFault("r;;r", 2);
        ordersFault("r;r;r;r;r;r;r;r;r;r;r;r;r;r;r;w", NONE);
        ordersFault("r;r;r;r;r;r;r;r;r;r;r;r;r;r;r;w ;", 32);
        ordersFault("r;r;r;r;r;r;r;r;r;r;r;r;r;r;r;w;r", 31);
        ordersFault("r;r;r;r;r;r;r;r;r;r;r;r;r;r;r;w;x", 31);
        ordersFault("x", 0);
    }

    private static void texts() {
        SaltArmy x = new SaltArmy();
        c.due("text of a fault", Checks.text(x, 0, "p;p"), NONE);
        c.due("tape stays", x.count(6), 3);
        c.due("no such text", x.text(-1), NONE);
        c.due("no such text", x.text(3), NONE);
        x.end(0);
        Checks.feed(x, "r");
        c.due("no such text, though there are such orders", x.text(3), NONE);
        c.due("no such text, though there are such orders", x.text(-1), NONE);
        c.due("no such fault, though there are such orders", x.fault(3), -2);
        c.due("tape stays", x.count(6), 1);
        for (int i = 0; i < 4; i++) {
            c.due("law", Checks.text(x, 1, "y:1"), i);
            c.due("tape empty", x.count(6), 0);
            c.due("orders", Checks.text(x, 2, "r;w"), i);
        }
        c.due("laws", x.count(4), 4);
        c.due("orders", x.count(5), 4);
        c.due("fifth law", Checks.text(x, 1, "y:1"), NONE);
        c.due("tape stays", x.count(6), 3);
        c.due("fault of a fifth", x.fault(1), NONE);
        c.due("fifth orders", Checks.text(x, 2, "r"), NONE);
        c.due("fault of a fifth", Checks.fault(x, 2, "rr"), 1);
        c.due("the fourth stays", x.step(3, 1, 0), 5);
        c.due("laws hold without a land", x.law(2), true);
        c.due("land", Checks.text(x, 0, "p;p;c;c;c"), 3);
        c.due("which holds stays", x.count(7), 2);
        c.due("laws stay", x.count(4), 4);
        c.due("orders stay", x.count(5), 4);
        newLandForgets();
    }

    private static void newLandForgets() {
        SaltArmy x = Checks.land("ps9;p;w;c;f");
        x.hour(3);
        x.dig(0);
        x.sky(0, 1, true);
        x.streak(0, 1);
        x.image();
        c.due("hour", x.count(8), 1);
        c.due("dug", x.count(11), 9);
        c.due("no land of a fault", Checks.text(x, 0, "p;p;c;w;;"), NONE);
        c.due("all is as it was", x.count(0) * 100 + x.count(1) * 10 + x.count(3), 211);
        c.due("all is as it was", x.count(15), 2);
        c.due("another land", Checks.text(x, 0, "p;p;p;c"), 1);
        int[] gone = {1, 3, 6, 8, 10, 11, 13, 14, 15, 16};
        for (int what : gone) {
            c.due("new land: count " + what, x.count(what), 0);
        }
        c.due("all grains", x.count(12), 50);
        c.due("no image of this land", x.back(), NONE);
        c.due("no undo", x.undo(), NONE);
        c.due("no ground", x.spot(0, 4), 0);
        c.due("no log", x.log(0, 0), NONE);
        c.due("no ways of the other one", x.way(0, 0), NONE);
    }

    private static void landTold() {
        SaltArmy x = Checks.land("c;f;w;p;ph3k1r7s4;cp1g7w8m3q9;wa1b0t4f6;fp1b0");
        int[] usualPlace = {0, 0, 20, 0, 0, 0};
        int[] place = {3, 1, 7, 4, 0, 0};
        int[] usualCompany = {0, 0, 50, 5, 0, 0};
        int[] company = {1, 0, 7, 8, 3, 9};
        for (int what = 0; what < 6; what++) {
            c.due("spot", x.spot(0, what), usualPlace[what]);
            c.due("spot", x.spot(1, what), place[what]);
            c.due("company", Checks.company(x, 0, what), usualCompany[what]);
            c.due("company", Checks.company(x, 1, what), company[what]);
            c.due("no such spot", x.spot(2, what), NONE);
            c.due("no such company", Checks.company(x, 2, what), Checks.THROWN);
            c.due("no such company", Checks.company(x, -1, what), Checks.THROWN);
        }
        c.due("no such spot", x.spot(-1, 0), NONE);
        c.due("no such what", x.spot(0, 6), NONE);
        c.due("no such what", x.spot(0, -1), NONE);
        c.due("no such what", Checks.company(x, 0, 6), Checks.THROWN);
        c.due("no such what", Checks.company(x, 0, -1), Checks.THROWN);
        int[] usualWay = {0, 1, 1, 0};
        int[] way = {1, 0, 4, 6};
        for (int what = 0; what < 4; what++) {
            c.due("way", x.way(0, what), usualWay[what]);
            c.due("way", x.way(1, what), way[what]);
        }
        c.due("no such way", x.way(2, 0), NONE);
        c.due("no such way", x.way(-1, 0), NONE);
        c.due("no such what", x.way(0, 4), NONE);
        c.due("no such what", x.way(0, -1), NONE);
        c.due("foe", x.foe(0, 0), 0);
        c.due("foe", x.foe(0, 1), 2);
        c.due("foe", x.foe(1, 0), 1);
        c.due("foe", x.foe(1, 1), 0);
        c.due("no such foe", x.foe(2, 0), NONE);
        c.due("no such foe", x.foe(-1, 0), NONE);
        c.due("no such what", x.foe(0, 2), NONE);
        c.due("no such what", x.foe(0, -1), NONE);
    }

    /** A company with 90 grains, wear 7, height 8, mould 2, in hour 0. */
    private static void worth(String law, int want) {
        SaltArmy x = Checks.landWithLaw("ph8;p;cg90w7m2", law);
        c.due("worth of " + law, x.wear(0), want);
    }

    private static void worths() {
        worth("y:g", 90);
        worth("y:w", 7);
        worth("y:h", 8);
        worth("y:m", 2);
        worth("y:t", 0);
        worth("y:9999", 90);
        worth("y:0-1", 0);
        worth("y:w+h*m", 23);
        worth("y:[w+h]*m", 30);
        worth("y:g-w-h", 75);
        worth("y:g/w/m", 6);
        worth("y:g/w*m", 24);
        worth("y:g/0+3", 3);
        worth("y:g/t+3", 3);
        worth("y:[0-7]/2+10", 7);
        worth("y:9999*9999/9999", 90);
        worth("y:9999*9999-9999*9999+5", 5);
        worth("y:9999*9999/9999-90", 10);
        worth("y:[0-9999]*9999+9999*100+105", 5);
        worth("y:[0-9999]*9999*9999/9999/10+15", 5);
        worth("y:1000*1000+5-9999*100-80", 20);
        worth("y:g>90?1;y:g<90?2;y:g=90?3;y:4", 3);
        worth("y:g>89?1", 1);
        worth("y:g>90?1", 0);
        worth("y:g<90?1;y:2;y:3", 2);
        worth("y:g=1|w=7?5", 5);
        worth("y:g=1&w=7?5", 0);
        worth("y:w=7|g=1&h=1?5", 5);
        worth("y:g=1&h=1|w=7?5", 5);
        worth("y:(w=7|g=1)&h=1?5", 0);
        worth("y:!g=1&w=7?5", 5);
        worth("y:!(g=1|w=7)?5;y:6", 6);
        worth("y:!!w=7?5", 5);
        worth("y:!w=7|h=8?5", 5);
        worth("y:!w=7&h=8?5", 0);
        worth("y:w+1=h&m*4=h?[m+1]*3", 9);
        worth(" y : w = 7 ? 1 2 ".replace("1 2", "12"), 12);
        worth("y:0-1<0?8", 8);
        worth("y:g-w*2>h+m?3;y:4", 3);
        SaltArmy x = Checks.landWithLaw("p;p;cg90w7;f", "y:t*10+1");
        c.due("in the first hour", x.wear(0), 1);
        x.hour(1);
        c.due("lost", Checks.company(x, 0, 2), 84);
        c.due("in the second hour", x.wear(0), 11);
        x.hour(1);
        c.due("lost", Checks.company(x, 0, 2), 68);
    }

    private static void lawsThatHold() {
        SaltArmy x = Checks.land("ph7k1;p;cg5w9;cp1w2");
        c.due("none holds: less a third of height", x.wear(0), 5);
        c.due("none holds", x.wear(1), 2);
        c.due("no such company", x.wear(2), NONE);
        c.due("no such company", x.wear(-1), NONE);
        c.due("no such law", x.law(0), false);
        c.due("none", x.law(NONE), true);
        c.due("below none", x.law(-2), false);
        Checks.text(x, 1, "y:3");
        Checks.text(x, 1, "y:g-1");
        c.due("holds not by itself", x.count(7), NONE);
        c.due("first", x.law(0), true);
        c.due("wear", x.wear(0), 3);
        c.due("second", x.law(1), true);
        c.due("wear", x.wear(0), 4);
        c.due("no third", x.law(2), false);
        c.due("still the second", x.count(7), 1);
        c.due("none again", x.law(NONE), true);
        c.due("wear", x.wear(0), 5);
        SaltArmy high = Checks.land("ph9;ph2;cw2;cp1w2;cg99w9");
        c.due("never below 0", high.wear(0), 0);
        c.due("a third is cut", high.wear(1), 2);
        c.due("with all of it", high.wear(2), 6);
    }

    private static void steps() {
        SaltArmy x = new SaltArmy();
        Checks.text(x, 2, "m12;j34;d5;s6;r;w");
        int[][] want = {{0, 1, 2}, {1, 3, 4}, {2, 5, NONE}, {3, 6, NONE}, {4, NONE, NONE}, {5, NONE, NONE}};
        for (int i = 0; i < want.length; i++) {
            for (int what = 0; what < 3; what++) {
                c.due("step " + i + " " + what, x.step(0, i, what), want[i][what]);
            }
        }
        c.due("no such step", x.step(0, 6, 0), NONE);
        c.due("no such step", x.step(0, -1, 0), NONE);
        c.due("no such what", x.step(0, 0, 3), NONE);
        c.due("no such what", x.step(0, 0, -1), NONE);
        c.due("no such orders", x.step(1, 0, 0), NONE);
        c.due("no such orders", x.step(-1, 0, 0), NONE);
        c.due("run without a land", x.run(0, 0), SaltArmy.HIDDEN);
        c.due("perform without a land", x.perform(0), NONE);
    }
}
