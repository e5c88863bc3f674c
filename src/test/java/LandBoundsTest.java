/** Boundary cases of a land as a text (promises 4 and 5, the terms) and of what is told of it (promises 6 to 9). */
public final class LandBoundsTest {
    private static final Checks c = new Checks();
    private static final int NONE = SaltArmy.NONE;
    private static final int LOW = Integer.MIN_VALUE;
    private static final int HIGH = Integer.MAX_VALUE;

    /** Kind, letter, lowest, highest, usual number. */
    private static final Object[][] ITEMS = {
        {'p', 'h', 0, 9, 0}, {'p', 'k', 0, 1, 0}, {'p', 'r', 0, 99, 20}, {'p', 's', 0, 9, 0},
        {'w', 'a', 0, 7, 0}, {'w', 'b', 0, 7, 1}, {'w', 't', 1, 9, 1}, {'w', 'f', 0, 9, 0},
        {'c', 'p', 0, 7, 0}, {'c', 'g', 1, 99, 50}, {'c', 'w', 0, 9, 5}, {'c', 'm', 0, 3, 0}, {'c', 'q', 0, 15, 0},
        {'f', 'p', 0, 7, 0}, {'f', 'b', 0, 9, 2}};

    public static void main(String[] args) {
        c.runAll(LandBoundsTest.class);
    }

    private static void fault(String text, int want) {
        c.due("fault of " + text, Checks.fault(new SaltArmy(), 0, text), want);
        c.due("text of " + text, Checks.text(new SaltArmy(), 0, text) != NONE, want == NONE);
    }

    private static String many(String clause, int times) {
        return Checks.repeat(clause + ";", times);
    }

    // ---- how many clauses

    private static void promise04FewerThanTwoPlaces() {
        fault("c", 1);
        fault("p;c", 3);
        fault("c;p", 3);
        fault("p;c;f;f", 7);
        fault("p;p;c", NONE);
        fault("p;c ", 4);
    }

    private static void promise04ANinthPlace() {
        fault(many("p", 8) + "c", NONE);
        fault(many("p", 9) + "c", 16);
        fault(many("p", 8) + "c;p", 18);
        fault(many("p", 8) + "c; p", 19);
        fault(many("p", 8) + "c;ph1", 18);
        c.due("eight places", Checks.land(many("p", 8) + "c").count(0), 8);
        c.due("two places", Checks.land("p;p;c").count(0), 2);
    }

    private static void promise04NoWayToTwelveNotThirteen() {
        fault("p;p;c", NONE);
        fault(many("w", 12) + "p;p;c", NONE);
        fault(many("w", 13) + "p;p;c", 24);
        fault("p;p;c;" + many("wt2", 12) + "w", 54);
        c.due("no way", Checks.land("p;p;c").count(1), 0);
        c.due("twelve ways", Checks.land(many("w", 12) + "p;p;c").count(1), 12);
        c.due("the twelfth way", Checks.land(many("w", 11) + "wt9;p;p;c").way(11, 2), 9);
    }

    private static void promise04WithoutACompany() {
        fault("p;p", 3);
        fault("p;p;w;f", 7);
        fault("p;p;w;f;c", NONE);
        c.due("one company", Checks.land("p;p;c").count(2), 1);
    }

    private static void promise04ASixthCompany() {
        fault(many("c", 5) + "p;p", NONE);
        fault(many("c", 6) + "p;p", 10);
        fault("p;p;" + many("c", 5) + "c", 14);
        c.due("five companies", Checks.text(new SaltArmy(), 0, many("c", 5) + "p;p"), 5);
        c.due("the fifth company", Checks.company(Checks.land("p;p;" + many("c", 4) + "cg7"), 4, 2), 7);
    }

    private static void promise04NoFoeToThreeNotFour() {
        fault("p;p;c;f;f;f", NONE);
        fault("p;p;c;f;f;f;f", 12);
        fault(many("f", 4) + "p;p;c", 6);
        c.due("no foe", Checks.land("p;p;c").count(3), 0);
        c.due("three foes", Checks.land("p;p;c;f;f;fb7").foe(2, 1), 7);
    }

    private static void promise04AllThatCanBeTold() {
        String all = many("p", 8) + many("w", 12) + many("c", 5) + "f;f;f";
        SaltArmy x = Checks.land(all);
        c.due("all", x.count(0) * 1000 + x.count(1) * 100 + x.count(2) * 10 + x.count(3), 8000 + 1200 + 50 + 3);
        fault(all + ";p", 56);
        fault(all + ";w", 56);
        fault(all + ";c", 56);
        fault(all + ";f", 56);
    }

    private static void promise04ClausesInAnyOrder() {
        SaltArmy x = Checks.land("f;c;w;pk1;fb1;cg1;wt3;p");
        c.due("place 0", x.spot(0, 1), 1);
        c.due("place 1", x.spot(1, 1), 0);
        c.due("foe 1", x.foe(1, 1), 1);
        c.due("company 1", Checks.grains(x, 1), 1);
        c.due("way 1", x.way(1, 2), 3);
    }

    // ---- items and their numbers

    /** Seven places and a company, an eighth place where the clause is none itself. */
    private static String ahead(char kind) {
        return many("p", 7) + "c;" + (kind == 'p' ? "" : "p;");
    }

    private static int told(SaltArmy x, char kind, char letter) {
        switch (kind) {
            case 'p':
                return x.spot(7, "hkrs".indexOf(letter));
            case 'w':
                return x.way(0, "abtf".indexOf(letter));
            case 'c':
                return Checks.company(x, 1, "p gwmq".indexOf(letter));
            default:
                return x.foe(0, "pb".indexOf(letter));
        }
    }

    /** The other end of a way, so that it is none to itself. */
    private static String beside(char kind, char letter, int value) {
        if (kind != 'w' || "ab".indexOf(letter) < 0) {
            return "";
        }
        return letter == 'a' ? value == 1 ? "b0" : "b1" : value == 0 ? "a1" : "a0";
    }

    private static void isTold(char kind, char letter, String number) {
        int value = Integer.parseInt(number);
        String clause = "" + kind + letter + number + beside(kind, letter, value);
        SaltArmy x = new SaltArmy();
        c.due("text with " + clause, Checks.text(x, 0, ahead(kind) + clause), kind == 'c' ? 2 : 1);
        c.due("told by " + clause, told(x, kind, letter), value);
    }

    private static void isWrong(char kind, char letter, String number, int digit) {
        String start = ahead(kind) + kind + letter;
        fault(start + number, start.length() + digit);
        fault(start + number + ";p", start.length() + digit);
    }

    private static void promise04ItemsWithinTheirBounds() {
        for (Object[] item : ITEMS) {
            char kind = (Character) item[0];
            char letter = (Character) item[1];
            for (int value = (Integer) item[2]; value <= (Integer) item[3]; value++) {
                isTold(kind, letter, "" + value);
                if (value < 10) {
                    isTold(kind, letter, "0" + value);
                }
            }
        }
    }

    private static void promise04ANumberOutOfBoundsIsWrongAtItsLastDigit() {
        for (Object[] item : ITEMS) {
            char kind = (Character) item[0];
            char letter = (Character) item[1];
            for (int value = (Integer) item[3] + 1; value < 100; value++) {
                isWrong(kind, letter, "" + value, value < 10 ? 0 : 1);
                if (value < 10) {
                    isWrong(kind, letter, "0" + value, 1);
                }
            }
            for (int value = 0; value < (Integer) item[2]; value++) {
                isWrong(kind, letter, "" + value, 0);
                isWrong(kind, letter, "0" + value, 1);
            }
        }
    }

    private static void promise04AThirdDigitIsWrongItself() {
        for (Object[] item : ITEMS) {
            char kind = (Character) item[0];
            char letter = (Character) item[1];
            String[] numbers = {"000", "001", "010", "099", "100", "999", "0001", "1234"};
            for (String number : numbers) {
                isWrong(kind, letter, number, 2);
            }
        }
    }

    private static void promise04ANumberHasADigit() {
        for (Object[] item : ITEMS) {
            String start = ahead((Character) item[0]) + item[0] + item[1];
            fault(start, start.length());
            fault(start + " ", start.length() + 1);
            fault(start + ";", start.length());
            fault(start + "x", start.length());
            fault(start + "-1", start.length());
            fault(start + item[1], start.length());
            fault(start + "/", start.length());
            fault(start + ":", start.length());
        }
    }

    private static void promise04ALetterThatWasThere() {
        for (Object[] item : ITEMS) {
            String start = ahead((Character) item[0]) + item[0] + item[1] + "1";
            fault(start + item[1] + "1", start.length());
            fault(start + item[1], start.length());
            fault(start + " " + item[1], start.length() + 1);
        }
        fault("ph1k1r1s1h1;p;c", 9);
        fault("ph1k1r1s1s", 9);
        fault("ph1;ph1;c", NONE);
        fault("p;p;c;wa0b1t1f1a0", 15);
        fault("p;p;cp0g1w1m1q1q1", 15);
        fault("p;p;c;fp0b1b1", 11);
    }

    private static void promise04LettersOfOtherClauses() {
        for (char kind : "pwcf".toCharArray()) {
            String start = ahead(kind) + kind;
            for (char letter = 1; letter < 256; letter++) {
                boolean isIts = letter == ' ' || letter == ';';
                for (Object[] item : ITEMS) {
                    isIts |= (Character) item[0] == kind && (Character) item[1] == letter;
                }
                if (!isIts) {
                    fault(start + letter, start.length());
                }
            }
        }
    }

    private static void promise04UsualNumbers() {
        for (Object[] item : ITEMS) {
            char kind = (Character) item[0];
            c.due("usual " + kind + item[1], told(Checks.land(ahead(kind) + kind), kind, (Character) item[1]), (Integer) item[4]);
        }
    }

    private static void promise04ItemsInAnyOrder() {
        SaltArmy x = Checks.land("ps4r7k1h3;p;wf6t4b0a1;cq9m3w8g7p1;fb0p1");
        int[] place = {3, 1, 7, 4};
        int[] way = {1, 0, 4, 6};
        int[] company = {1, 0, 7, 8, 3, 9};
        for (int what = 0; what < 4; what++) {
            c.due("spot " + what, x.spot(0, what), place[what]);
            c.due("way " + what, x.way(0, what), way[what]);
        }
        for (int what = 0; what < 6; what++) {
            c.due("company " + what, Checks.company(x, 0, what), company[what]);
        }
        c.due("foe", x.foe(0, 0) * 10 + x.foe(0, 1), 10);
    }

    // ---- the first byte at which it can't go on

    private static void promise04ATextThatEndsTooEarly() {
        fault("", 0);
        fault(" ", 1);
        fault("p;", 2);
        fault("p;p;c;", 6);
        fault("p;p;c; ", 7);
        fault("p;p;c;w;", 8);
        fault("p;p;cg", 6);
    }

    private static void promise04NoClause() {
        fault(";", 0);
        fault(";p;p;c", 0);
        fault("p;;p;c", 2);
        fault("p;p;c;;", 6);
        fault("x", 0);
        fault("p;p;c;x", 6);
        fault("p;p;c;1", 6);
        fault("P;p;c", 0);
        fault("pp;c", 1);
        fault("p,p,c", 1);
        fault("p;p;c" + (char) 255, 5);
        fault("p;p;c" + (char) 9, 5);
        fault("p;p;c" + (char) 160, 5);
    }

    private static void promise04BlanksBetweenAllSigns() {
        fault(" p h 9 k 1 ; p ; w t 2 ; c g 99 ; f b 3 ", NONE);
        fault("  p  ;  p  ;  c  ", NONE);
        SaltArmy x = Checks.land(" p h 9 k 1 r 07 ; p ; c g 99 ");
        c.due("height", x.spot(0, 0), 9);
        c.due("roof", x.spot(0, 1), 1);
        c.due("rain", x.spot(0, 2), 7);
        c.due("grains", Checks.grains(x, 0), 99);
    }

    private static void promise04NoBlanksWithinNumbers() {
        fault("ph0 9;p;c", 4);
        fault("pr1 2;p;c", 4);
        fault("p;p;cg9 9", 8);
        fault("pr 12;p;c", NONE);
    }

    private static void promise04AWayFromAPlaceToItself() {
        fault("p;p;c;wb0", 9);
        fault("p;p;c;wa1", 9);
        fault("p;p;c;wa1b1", 11);
        fault("p;p;c;wa1b0", NONE);
        fault("p;p;wb0;c", 9);
        fault("p;p;wb0;c;", 10);
        fault("p;p;wb0;c;x", 10);
        fault("p;p;wb0;c;p ", 12);
        fault("p;p;c;w;w;wb0t9f9", 17);
    }

    private static void promise04APlaceThatIsNotTold() {
        fault("p;p;c;wa2", 9);
        fault("p;p;c;wb2", 9);
        fault("p;p;c;wa2;p", NONE);
        fault("p;p;c;wb2;p", NONE);
        fault("p;p;cp2", 7);
        fault("p;p;cp2;p", NONE);
        fault("p;p;c;fp2", 9);
        fault("p;p;c;fp2;p", NONE);
        fault("p;p;c;cp1;cp2", 13);
        fault("p;p;c;f;f;fp7", 13);
        fault(many("p", 7) + "cp7", 17);
        fault(many("p", 7) + "cp7;p", NONE);
        fault("cp1;p", 5);
        fault("cp1;p;p", NONE);
    }

    // ---- what is told of it

    private static void promise06SpotOfNoSuchPlace() {
        int[] places = {LOW, -2, -1, 4, 5, 7, 8, HIGH};
        for (int place : places) {
            for (int what = 0; what < 6; what++) {
                int asked = what;
                c.refused("spot " + place + " " + what, Scenes::busy, x -> x.spot(place, asked), NONE);
            }
        }
        c.due("the last one", Scenes.busy().spot(3, 2), 20);
        c.due("the eighth one", Checks.land(many("p", 7) + "ph9;c").spot(7, 0), 9);
        c.due("no ninth one", Checks.land(many("p", 7) + "ph9;c").spot(8, 0), NONE);
    }

    private static void promise06SpotOfNoSuchWhat() {
        int[] whats = {LOW, -2, -1, 6, 7, HIGH};
        for (int what : whats) {
            c.refused("spot 0 " + what, Scenes::busy, x -> x.spot(0, what), NONE);
        }
        int[] told = {3, 1, 50, 0, 5, 0};
        for (int what = 0; what < 6; what++) {
            int asked = what;
            c.refused("spot 1 " + what, Scenes::busy, x -> x.spot(1, asked), told[what]);
        }
    }

    private static void promise07NoSuchWay() {
        int[] ways = {LOW, -1, 3, 4, 11, 12, HIGH};
        for (int way : ways) {
            c.refused("way " + way, Scenes::busy, x -> x.way(way, 0), NONE);
        }
        int[] whats = {LOW, -1, 4, 5, HIGH};
        for (int what : whats) {
            c.refused("way 0 " + what, Scenes::busy, x -> x.way(0, what), NONE);
            c.refused("way 2 " + what, Scenes::busy, x -> x.way(2, what), NONE);
        }
        int[] told = {2, 0, 9, 0};
        for (int what = 0; what < 4; what++) {
            c.due("the last way " + what, Scenes.busy().way(2, what), told[what]);
        }
        c.due("no way at all", Checks.land("p;p;c").way(0, 0), NONE);
    }

    private static void promise08NoSuchCompanyThrows() {
        int[] companies = {LOW, -1, 5, 6, 7, 8, HIGH};
        for (int company : companies) {
            for (int what = 0; what < 6; what++) {
                int asked = what;
                c.refused("company " + company + " " + what, Scenes::busy, x -> Checks.company(x, company, asked), Checks.THROWN);
            }
        }
        c.due("the last told", Checks.company(Checks.land("p;p;c;c;c;c;cg7"), 4, 2), 7);
        c.due("none behind it", Checks.company(Checks.land("p;p;c;c;c;c;cg7"), 5, 2), Checks.THROWN);
    }

    private static void promise08NoSuchWhatThrows() {
        int[] whats = {LOW, -1, 6, 7, HIGH};
        for (int what : whats) {
            c.refused("company 0 " + what, Scenes::busy, x -> Checks.company(x, 0, what), Checks.THROWN);
            c.refused("company 4 " + what, Scenes::busy, x -> Checks.company(x, 4, what), Checks.THROWN);
        }
    }

    private static void promise08ACompanyOnAWayIsGoneOrCast() {
        int[][] told = {{0, 0, 29, 5, 0, 1}, {2, 1, 25, 5, 0, 2}, {2, 0, 17, 9, 3, 4}, {0, 0, 0, 5, 0, 0}, {0, 0, 24, 5, 2, 8}};
        for (int i = 0; i < told.length; i++) {
            for (int what = 0; what < 6; what++) {
                int company = i;
                int asked = what;
                c.refused("company " + i + " " + what, Scenes::busy, x -> Checks.company(x, company, asked), told[i][what]);
            }
        }
    }

    private static void promise09NoSuchFoe() {
        int[] foes = {LOW, -1, 2, 3, 4, HIGH};
        for (int foe : foes) {
            c.refused("foe " + foe, Scenes::busy, x -> x.foe(foe, 0), NONE);
            c.refused("foe's buckets " + foe, Scenes::busy, x -> x.foe(foe, 1), NONE);
        }
        int[] whats = {LOW, -1, 2, 3, HIGH};
        for (int what : whats) {
            c.refused("foe 0 " + what, Scenes::busy, x -> x.foe(0, what), NONE);
        }
        c.due("the first one's buckets", Scenes.busy().foe(0, 1), 6);
        c.due("the last one", Scenes.busy().foe(1, 0), 1);
        c.due("the last one's buckets", Scenes.busy().foe(1, 1), 0);
        c.due("no foe at all", Checks.land("p;p;c").foe(0, 0), NONE);
    }
}
