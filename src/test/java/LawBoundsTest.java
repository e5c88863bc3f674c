/** Boundary cases of laws as texts (promises 4 and 5, the terms), of law (10) and of wear (11). */
public final class LawBoundsTest {
    private static final Checks c = new Checks();
    private static final int NONE = SaltArmy.NONE;
    private static final int LOW = Integer.MIN_VALUE;
    private static final int HIGH = Integer.MAX_VALUE;

    public static void main(String[] args) {
        c.runAll(LawBoundsTest.class);
    }

    private static void fault(String text, int want) {
        c.due("fault of " + text, Checks.fault(new SaltArmy(), 1, text), want);
        c.due("text of " + text, Checks.text(new SaltArmy(), 1, text), want == NONE ? 0 : NONE);
    }

    /** A company with 90 grains, wear 7, at height 8, of mould 2, in hour 0. */
    private static void worth(String law, int want) {
        SaltArmy x = Checks.landWithLaw("ph8;p;cg90w7m2", law);
        c.due("wear by " + law, x.wear(0), want);
    }

    // ---- as a text

    private static void promise04OneClauseAtLeast() {
        fault("", 0);
        fault("  ", 2);
        fault("y:1", NONE);
        fault("y:1;y:2", NONE);
        fault("y:1;", 4);
        fault(";y:1", 0);
        fault("y:1;;y:2", 4);
        fault("y:1;y", 5);
        fault("y:1;y:", 6);
        fault("y:1;z:1", 4);
        fault("y:1y:2", 3);
    }

    private static void promise04AsManyClausesAsTheTapeHolds() {
        String all = Checks.repeat("y:0;", 59) + "y:33";
        c.due("bytes", all.length(), 240);
        fault(all, NONE);
        worth(Checks.repeat("y:g<1?1;", 29) + "y:44", 44);
        fault(Checks.repeat("y:0;", 59) + "y:3;", 240);
        worth("y:" + Checks.repeat("1+", 118) + "11", 90);
        worth("y:" + Checks.repeat("1-", 118) + "11", 0);
        worth("y:99-" + Checks.repeat("0+", 117) + "2", 90);
        worth("y:" + Checks.repeat("1*", 118) + "11", 11);
        worth("y:" + Checks.repeat("1=1&", 58) + "1=1?12", 12);
        worth("y:" + Checks.repeat("1=2|", 58) + "1=1?12", 12);
    }

    private static void promise04SignsOfAClause() {
        fault("y", 1);
        fault("y1", 1);
        fault("y:", 2);
        fault("y::1", 2);
        fault("Y:1", 0);
        fault("y;1", 1);
        fault("y?1", 1);
        fault("y:?1", 2);
        fault("y:1?2", 3);
        fault("y:g=1", 5);
        fault("y:g=1;y:2", 5);
        fault("y:g=1?", 6);
        fault("y:g=1?2", NONE);
        fault("y:g=1?2?3", 7);
        fault("y:g=1?w=2", 7);
        fault("y:g=1?!2", 6);
        fault("y:g=1?(2", 6);
    }

    private static void promise04ANumberHasOneToFourDigits() {
        fault("y:0", NONE);
        fault("y:0000", NONE);
        fault("y:9999", NONE);
        fault("y:00000", 6);
        fault("y:10000", 6);
        fault("y:99999", 6);
        fault("y:123456", 6);
        fault("y:1+12345", 8);
        fault("y:12345+1", 6);
        fault("y:[12345]", 7);
        fault("y:12 34", 5);
        fault("y:1 ", NONE);
        worth("y:9999-9919", 80);
        worth("y:0009*9", 81);
    }

    private static void promise04LettersOfALaw() {
        for (char letter = 1; letter < 256; letter++) {
            if (letter == ' ' || letter == '!' || letter == '(' || letter == '[' || letter >= '0' && letter <= '9') {
                continue;
            }
            fault("y:" + letter, "gwhmt".indexOf(letter) >= 0 ? NONE : 2);
            fault("y:1+" + letter, "gwhmt".indexOf(letter) >= 0 ? NONE : 4);
        }
        fault("y:gw", 3);
        fault("y:g1", 3);
        fault("y:1g", 3);
        fault("y:g[1]", 3);
        fault("y:[1]g", 5);
    }

    private static void promise04SignsOfASum() {
        fault("y:1+", 4);
        fault("y:1-", 4);
        fault("y:1*", 4);
        fault("y:1/", 4);
        fault("y:1+;", 4);
        fault("y:-1", 2);
        fault("y:+1", 2);
        fault("y:1+-1", 4);
        fault("y:1*/1", 4);
        fault("y:[", 3);
        fault("y:[]", 3);
        fault("y:[1", 4);
        fault("y:[1)", 4);
        fault("y:[1]]", 5);
        fault("y:1]", 3);
        fault("y:1)", 3);
        fault("y:[1=1]", 4);
        fault("y:1+(1)", 4);
        fault("y:1+!1", 4);
        fault("y:1&1", 3);
        fault("y:1|1", 3);
        fault("y:1%2", 3);
    }

    private static void promise04SignsOfACondition() {
        fault("y:1=", 4);
        fault("y:1==1?1", 4);
        fault("y:1<=1?1", 4);
        fault("y:1=1=1?1", 5);
        fault("y:1=1&", 6);
        fault("y:1=1&?1", 6);
        fault("y:1=1|?1", 6);
        fault("y:1=1&&1=1?1", 6);
        fault("y:1=1&1?1", 7);
        fault("y:(1=1", 6);
        fault("y:(1=1]?1", 6);
        fault("y:()?1", 3);
        fault("y:(1)?1", 4);
        fault("y:(1=1)", 7);
        fault("y:(1=1);y:1", 7);
        fault("y:(1=1)=1?1", 7);
        fault("y:(1=1)(1=1)?1", 7);
        fault("y:!", 3);
        fault("y:!1", 4);
        fault("y:!1+1?1", 6);
        fault("y:!(1)?1", 5);
        fault("y:1!=1?1", 3);
        fault("y:1=(1)?1", 4);
        fault("y:1=!1?1", 4);
    }

    private static void promise04BlanksInALaw() {
        fault(" y : [ g + 1 ] = 2 & ! ( w < 3 | m > 0 ) ? t * 4 / 5 - 1 ; y : 7 ", NONE);
        fault("y:1 1", 4);
        fault("y:1 +1", NONE);
        fault("y:g > = 1?1", 6);
    }

    private static void promise04SixWithinOneAnotherNotSeven() {
        String[] openings = {"!", "(", "["};
        for (String a : openings) {
            for (String b : openings) {
                for (int first = 0; first <= 6; first++) {
                    nested(Checks.repeat(a, first) + Checks.repeat(b, 6 - first), NONE);
                    nested(Checks.repeat(a, first) + Checks.repeat(b, 7 - first), 8);
                }
            }
        }
        nested("!(!(![", NONE);
        nested("!(!([[", NONE);
        nested("(!(!(![", 8);
        nested("!!!([[[", 8);
        nested("((((((((", 8);
    }

    /** Opened so, closed again; signs of conditions do not stand within those of sums. */
    private static void nested(String opened, int want) {
        int sums = opened.indexOf('[');
        if (sums >= 0 && (opened.lastIndexOf('(') > sums || opened.lastIndexOf('!') > sums)) {
            return;
        }
        StringBuilder text = new StringBuilder("y:" + opened + "1");
        for (int i = opened.length() - 1; i >= 0; i--) {
            if (opened.charAt(i) == '[') {
                text.append(']');
            }
        }
        text.append("=1");
        for (int i = opened.length() - 1; i >= 0; i--) {
            if (opened.charAt(i) == '(') {
                text.append(')');
            }
        }
        fault(text.append("?1").toString(), want);
    }

    private static void promise04SixWithinOneAnotherOnTheOtherSide() {
        fault("y:!!!!!1=[1]?1", NONE);
        fault("y:!!!!!!1=[1]?1", 10);
        fault("y:!!!!!1=[[1]]?1", 10);
        fault("y:1=[[[[[[1]]]]]]?1", NONE);
        fault("y:1=[[[[[[[1]]]]]]]?1", 10);
        fault("y:1=1?[[[[[[1]]]]]]", NONE);
        fault("y:1=1?[[[[[[[1]]]]]]]", 12);
        fault("y:(((1=1&(1=1|((1=2))))))?1", NONE);
        fault("y:(((1=1&(1=1|(((1=2)))))))?1", 16);
    }

    private static void promise04ManyBesideOneAnotherAreNotWithin() {
        fault("y:" + Checks.repeat("[1]+", 20) + "1", NONE);
        fault("y:" + Checks.repeat("(1=1)&", 20) + "1=1?1", NONE);
        fault("y:" + Checks.repeat("!1=1&", 20) + "1=1?1", NONE);
        fault("y:[[[[[[1]]]]]]*[[[[[[1]]]]]]", NONE);
        fault("y:!!!!!!1=1&!!!!!!1=1?1", NONE);
        fault("y:!!!!!!1=1&!!!!!!!1=1?1", 18);
        fault("y:[[[[[[1]]]]]];y:[[[[[[1]]]]]]", NONE);
    }

    /** Within the deepest law that the tape holds numbers wait for one another at every level. */
    private static void promise04TheDeepestLawIsReckoned() {
        worth("y:1=2|1=1&(1=2|1=1&(1=2|1=1&(1=2|1=1&(1=2|1=1&(1=2|1=1&1+2*3=7)))))?8", 8);
        worth("y:1=2|1=1&1+2*[1+2*[1+2*[1+2*[1+2*[1+2*[1+2*3]]]]]]=511?8;y:9", 8);
        worth("y:1=2|1=1&1+2*[1+2*[1+2*[1+2*[1+2*[1+2*[1+2*3]]]]]]=512?8;y:9", 9);
        worth("y:9+1*[8-1*[7+1*[6-1*[5+1*[4-1*[3]]]]]]", 9 + 8 - (7 + 6 - (5 + 4 - 3)));
    }

    /** Nothing of a sign, of a condition or of a clause stays behind it. */
    private static void promise04TheLongestLawsAreReckoned() {
        worth("y:" + Checks.repeat("!1=2&", 46) + "1=1?9", 9);
        worth("y:" + Checks.repeat("!1=1|", 45) + "1=2?9;y:8", 8);
        worth(Checks.repeat("y:!1=1?1;", 26) + "y:7", 7);
        worth(Checks.repeat("y:1=2?1;", 29) + "y:7", 7);
        worth(Checks.repeat("y:(1=2)?1;", 23) + "y:6", 6);
        worth("y:" + Checks.repeat("[1]+", 59) + "1", 60);
    }

    // ---- numbers

    private static void promise11NumbersUpToAMillion() {
        worth("y:999*1001-9999*100-50", 49);
        worth("y:1000*1000-9999*100-50", 50);
        worth("y:999*1001+1-9999*100-50", 50);
        worth("y:1000*1001-9999*100-50", 50);
        worth("y:999*1001+2-9999*100-50", 50);
        worth("y:1000*1000+1-9999*100-50", 50);
        worth("y:9999*9999-9999*100-50", 50);
        worth("y:1000*1000-1-9999*100-50", 49);
        worth("y:1000*1000-[0-1]-9999*100-50", 50);
    }

    private static void promise11NumbersDownToAMillionBelow() {
        worth("y:0-999*1001+9999*100+150", 51);
        worth("y:0-1000*1000+9999*100+150", 50);
        worth("y:0-999*1001-1+9999*100+150", 50);
        worth("y:[0-1000]*1001+9999*100+150", 50);
        worth("y:0-999*1001-2+9999*100+150", 50);
        worth("y:0-1000*1000-1+9999*100+150", 50);
        worth("y:[0-9999]*9999+9999*100+150", 50);
        worth("y:[0-9999]*[0-9999]-9999*100-50", 50);
    }

    private static void promise11HeldBehindEachSign() {
        worth("y:9999*9999/9999-90", 10);
        worth("y:9999*9999/9999*0+9", 9);
        worth("y:9999*9999-9999*9999+7", 7);
        worth("y:1000*1000+1000-1000-9989*100-50", 50);
        worth("y:1000*1000=1000*1000+1?7;y:8", 7);
        worth("y:1000*1000<1000*1000+1?7;y:8", 8);
        worth("y:1000*1000>999*1001?7;y:8", 7);
    }

    private static void promise11DivisionCutsTowards0() {
        worth("y:7/2", 3);
        worth("y:[0-7]/2+10", 7);
        worth("y:7/[0-2]+10", 7);
        worth("y:[0-7]/[0-2]", 3);
        worth("y:1/2", 0);
        worth("y:[0-1]/2+5", 5);
        worth("y:8/2", 4);
        worth("y:[0-8]/2+10", 6);
        worth("y:9/10*10", 0);
    }

    private static void promise11DivisionBy0Gives0() {
        worth("y:5/0", 0);
        worth("y:5/0+6", 6);
        worth("y:0/0+6", 6);
        worth("y:[0-5]/0+6", 6);
        worth("y:5/[w-7]+6", 6);
        worth("y:5/t+6", 6);
        worth("y:5/1+6", 11);
        worth("y:5/[0-1]+6", 1);
    }

    private static void promise11ComparisonsOnBothSides() {
        worth("y:w<7?1;y:2", 2);
        worth("y:w<8?1;y:2", 1);
        worth("y:w>7?1;y:2", 2);
        worth("y:w>6?1;y:2", 1);
        worth("y:w=7?1;y:2", 1);
        worth("y:w=6?1;y:2", 2);
        worth("y:w=8?1;y:2", 2);
        worth("y:0-1<0?1;y:2", 1);
        worth("y:0-1>0-2?1;y:2", 1);
    }

    private static void promise11ConditionsOnBothSides() {
        String[] truths = {"1=2", "1=1"};
        for (int a = 0; a < 2; a++) {
            worth("y:!" + truths[a] + "?1;y:2", 1 + a);
            worth("y:!!" + truths[a] + "?1;y:2", 2 - a);
            for (int b = 0; b < 2; b++) {
                worth("y:" + truths[a] + "&" + truths[b] + "?1;y:2", a + b == 2 ? 1 : 2);
                worth("y:" + truths[a] + "|" + truths[b] + "?1;y:2", a + b > 0 ? 1 : 2);
                for (int d = 0; d < 2; d++) {
                    String three = truths[a] + "|" + truths[b] + "&" + truths[d];
                    worth("y:" + three + "?1;y:2", (a | b & d) == 1 ? 1 : 2);
                    worth("y:!" + three + "?1;y:2", (1 - a | b & d) == 1 ? 1 : 2);
                    worth("y:!(" + three + ")?1;y:2", (a | b & d) == 0 ? 1 : 2);
                    worth("y:(" + truths[a] + "|" + truths[b] + ")&" + truths[d] + "?1;y:2", ((a | b) & d) == 1 ? 1 : 2);
                }
            }
        }
    }

    private static void promise11TheFirstClauseThatHolds() {
        worth("y:1;y:2", 1);
        worth("y:g=1?1;y:2;y:3", 2);
        worth("y:g=90?1;y:g=90?2", 1);
        worth("y:g=1?1;y:g=2?2", 0);
        worth("y:g=1?1", 0);
        worth("y:g=1?1;y:g=2?2;y:g=90?3", 3);
    }

    private static void promise11TheWorthIsWithin0And99() {
        int[] all = {-1000000, -2, -1, 0, 1, 2, 97, 98, 99, 100, 101, 9999};
        for (int worth : all) {
            String law = worth < 0 ? "y:0-" + (worth < -9999 ? "1000*1000" : "" + -worth) : "y:" + worth;
            SaltArmy x = Checks.landWithLaw("p;p;cg99", law);
            int want = Math.max(0, Math.min(99, worth));
            c.due("wear by " + law, x.wear(0), want);
            c.due("hour", x.hour(1), 1);
            c.due("grains by " + law, Checks.grains(x, 0), 99 - want);
            c.due("ground by " + law, x.spot(0, 4), want);
        }
    }

    private static void promise11NoMoreThanItHas() {
        for (int grains = 1; grains <= 12; grains++) {
            SaltArmy x = Checks.land("p;p;cg" + grains + "w6");
            c.due("wear of " + grains, x.wear(0), Math.min(6, grains));
            SaltArmy y = Checks.landWithLaw("p;p;cg" + grains, "y:8");
            c.due("wear by 8 of " + grains, y.wear(0), Math.min(8, grains));
        }
        c.due("wear 0", Checks.land("p;p;cw0").wear(0), 0);
    }

    private static void promise11WithoutALawLessAThirdOfHeight() {
        for (int wear = 0; wear <= 9; wear++) {
            for (int height = 0; height <= 9; height++) {
                SaltArmy x = Checks.land("ph" + height + ";p;cw" + wear);
                c.due("wear " + wear + " at " + height, x.wear(0), Math.max(0, wear - height / 3));
            }
        }
    }

    private static void promise11TheLetters() {
        worth("y:g", 90);
        worth("y:w", 7);
        worth("y:h", 8);
        worth("y:m", 2);
        worth("y:t+5", 5);
        SaltArmy x = Checks.landWithLaw("p;ph9;wt2;cg60", "y:h*5+t+1");
        c.due("height where it is", x.wear(0), 1);
        x.march(0, 1);
        c.due("height of where it goes to", x.wear(0), 46);
        x.hour(0);
        c.due("the second hour", x.wear(0), 47);
        x.undo();
        c.due("the first hour again", x.wear(0), 46);
    }

    private static void promise11NoRoofIsAsked() {
        SaltArmy x = Checks.land("pk1;p;cw9");
        c.due("wear", x.wear(0), 9);
        x.hour(1);
        c.due("grains", Checks.grains(x, 0), 50);
    }

    private static void promise11NoSuchLivingOne() {
        int[] companies = {LOW, -2, -1, 3, 5, 7, 8, HIGH};
        for (int company : companies) {
            c.refused("wear " + company, Scenes::busy, x -> x.wear(company), NONE);
        }
        int[] told = {2, 2, 2, NONE, 2};
        for (int i = 0; i < told.length; i++) {
            int company = i;
            c.refused("wear " + i, Scenes::busy, x -> x.wear(company), told[i]);
        }
        SaltArmy x = Checks.land("p;p;cg1");
        c.due("of one grain", x.wear(0), 1);
        x.hour(1);
        c.due("of none", x.wear(0), NONE);
    }

    // ---- which holds

    private static void promise10NoSuchLaw() {
        int[] laws = {LOW, -3, -2, 2, 3, 4, 5, HIGH};
        for (int law : laws) {
            c.refused("law " + law, Scenes::busy, x -> x.law(law) ? 1 : 0, 0);
        }
        c.refused("the first of none", SaltArmy::new, x -> x.law(0) ? 1 : 0, 0);
        c.refused("none of none", SaltArmy::new, x -> x.law(NONE) ? 1 : 0, 1);
    }

    private static void promise10EachLawCanHold() {
        SaltArmy x = Checks.land("p;p;c");
        for (int i = 0; i < 4; i++) {
            c.due("not yet", x.law(i), false);
            Checks.text(x, 1, "y:" + (i + 1));
            c.due("none holds by itself", x.count(7), i - 1);
            c.due("law " + i, x.law(i), true);
            c.due("which holds", x.count(7), i);
            c.due("wear", x.wear(0), i + 1);
        }
        c.due("no fifth", x.law(4), false);
        c.due("which holds", x.count(7), 3);
        c.due("none", x.law(NONE), true);
        c.due("which holds", x.count(7), NONE);
        c.due("wear", x.wear(0), 5);
        c.due("again", x.law(2), true);
        c.due("wear", x.wear(0), 3);
    }

    private static void promise10AFaultOfALawLeavesWhatHolds() {
        SaltArmy x = Checks.landWithLaw("p;p;c", "y:3");
        c.due("fault", Checks.fault(x, 1, "y:9+"), 4);
        c.due("wear", x.wear(0), 3);
        c.due("no fault", Checks.fault(x, 1, "y:9"), NONE);
        c.due("wear", x.wear(0), 3);
        c.due("text", x.text(1), 1);
        c.due("wear", x.wear(0), 3);
        c.due("the other one", x.law(1), true);
        c.due("wear", x.wear(0), 9);
    }
}
