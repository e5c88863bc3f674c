import java.util.ArrayList;
import java.util.List;

/** Boundary cases of pickets (promise 28) and stock (29). */
public final class PicketBoundsTest {
    private static final Checks c = new Checks();
    private static final int NONE = SaltArmy.NONE;
    private static final int LOW = Integer.MIN_VALUE;
    private static final int HIGH = Integer.MAX_VALUE;

    public static void main(String[] args) {
        c.runAll(PicketBoundsTest.class);
    }

    private static void promise28OutOfBounds() {
        int[] nights = {LOW, -1, 0, 7, 8, HIGH};
        for (int n : nights) {
            c.refused("pickets for " + n, Scenes::busy, x -> x.pickets(n, 1, 0, NONE), NONE);
            c.refused("the first for " + n, Scenes::busy, x -> x.pickets(n, 1, 0, 0), NONE);
        }
        int[] losses = {LOW, -1, 0, 10, 11, HIGH};
        for (int loss : losses) {
            c.refused("pickets with a loss of " + loss, Scenes::busy, x -> x.pickets(1, loss, 0, NONE), NONE);
        }
        int[] bounds = {LOW, -2, -1, 100, 101, HIGH};
        for (int bound : bounds) {
            c.refused("pickets by " + bound, Scenes::busy, x -> x.pickets(1, 1, bound, NONE), NONE);
        }
    }

    private static void promise28WithinBounds() {
        c.refused("one night", Scenes::busy, x -> x.pickets(1, 1, 0, NONE), 4);
        c.refused("six nights", Scenes::busy, x -> x.pickets(6, 1, 0, NONE), 4096);
        c.refused("a loss of nine", Scenes::busy, x -> x.pickets(1, 9, 0, NONE), 4);
        SaltArmy x = Checks.land("p;p;cg99");
        c.due("a bound of 98", x.pickets(1, 1, 98, NONE), 1);
        c.due("a bound of 99", x.pickets(1, 1, 99, NONE), 0);
    }

    private static void promise28NoSuchOne() {
        int[] beside = {LOW, -3, -2, 4, 5, HIGH};
        for (int i : beside) {
            c.refused("the row " + i, Scenes::busy, x -> x.pickets(1, 1, 0, i), NONE);
        }
        int[] rows = {0, 1, 2, 4};
        for (int i = 0; i < 4; i++) {
            int asked = i;
            c.refused("the row " + i, Scenes::busy, x -> x.pickets(1, 1, 0, asked), rows[i]);
        }
        SaltArmy x = Scenes.busy();
        c.due("the last of 4096", x.pickets(6, 1, 0, 4095), 444444);
        c.due("none behind it", x.pickets(6, 1, 0, 4096), NONE);
        c.due("the first", x.pickets(6, 1, 0, 0), 0);
        c.due("the second", x.pickets(6, 1, 0, 1), 1);
        c.due("of none the first", x.pickets(1, 9, 99, 0), NONE);
        c.due("how many", x.pickets(1, 9, 99, NONE), 0);
    }

    private static SaltArmy eight() {
        SaltArmy x = Checks.land("p;p;cg99w9;cg99w9;cg99w9;cg99w9;cg99w9");
        for (int i = 0; i < 3; i++) {
            x.hour(1);
            x.cast(0, 0);
        }
        return x;
    }

    private static void promise28EightCompaniesSixNights() {
        SaltArmy x = eight();
        c.due("eight live", x.count(9), 8);
        c.due("rows", x.pickets(6, 1, 0, NONE), 262144);
        c.due("the last", x.pickets(6, 1, 0, 262143), 777777);
        c.due("none behind it", x.pickets(6, 1, 0, 262144), NONE);
        c.due("one in the middle", x.pickets(6, 1, 0, Integer.parseInt("234567", 8)), 234567);
    }

    private static void promise28OneThatHasFewerCantStand() {
        for (int grains = 1; grains <= 12; grains++) {
            SaltArmy x = Checks.land("p;p;cg" + grains);
            for (int loss = 1; loss <= 9; loss++) {
                for (int n = 1; n <= 6; n++) {
                    c.due(n + " nights of " + loss + " with " + grains, x.pickets(n, loss, 0, NONE), grains >= n * loss ? 1 : 0);
                }
            }
        }
    }

    private static void promise28NobodyBelowTheBound() {
        SaltArmy x = Checks.land("p;p;cg20;cg10");
        c.due("both can", x.pickets(1, 3, 7, NONE), 2);
        c.due("one can", x.pickets(1, 3, 8, NONE), 1);
        c.due("the one", x.pickets(1, 3, 8, 0), 0);
        c.due("who does not stand has so many", x.pickets(1, 3, 10, NONE), 1);
        c.due("who does not stand has fewer", x.pickets(1, 3, 11, NONE), 0);
        c.due("two nights", x.pickets(2, 3, 7, NONE), 3);
        c.due("rows rise", x.pickets(2, 3, 7, 0), 0);
        c.due("rows rise", x.pickets(2, 3, 7, 1), 1);
        c.due("rows rise", x.pickets(2, 3, 7, 2), 10);
        c.due("no more", x.pickets(2, 3, 7, 3), NONE);
    }

    private static void promise28OneThatIsGoneDoesNotStand() {
        SaltArmy x = Checks.land("p;p;cg5;cg50;cg5");
        x.hour(1);
        c.due("one lives", x.count(9), 1);
        c.due("rows", x.pickets(2, 1, 0, NONE), 1);
        c.due("its row", x.pickets(2, 1, 0, 0), 11);
        c.due("gone ones are below no bound", x.pickets(1, 1, 44, NONE), 1);
        SaltArmy nobody = Checks.land("p;p;cg5");
        nobody.hour(1);
        c.due("nobody lives", nobody.pickets(1, 1, 0, NONE), 0);
        c.due("nobody lives", nobody.pickets(1, 1, 0, 0), NONE);
    }

    private static void promise28ToTheLastGrain() {
        SaltArmy x = Checks.land("p;p;cg6;cg3");
        c.due("exactly all", x.pickets(3, 3, 0, NONE), 3);
        c.due("rows", x.pickets(3, 3, 0, 0), 1);
        c.due("rows", x.pickets(3, 3, 0, 1), 10);
        c.due("rows", x.pickets(3, 3, 0, 2), 100);
        c.due("one night more", x.pickets(4, 3, 0, NONE), 0);
        c.due("by a bound of 1", x.pickets(2, 3, 1, NONE), 0);
        c.due("by a bound of 1", x.pickets(1, 3, 1, NONE), 1);
    }

    private static List<Integer> rows(int n, int loss, int bound, int[] grains, int row) {
        List<Integer> found = new ArrayList<>();
        if (n == 0) {
            found.add(row);
            return found;
        }
        for (int i = 0; i < grains.length; i++) {
            int[] then = grains.clone();
            then[i] -= loss;
            boolean holds = then[i] >= 0;
            for (int left : then) {
                holds &= left >= bound;
            }
            if (holds) {
                found.addAll(rows(n - 1, loss, bound, then, row * 10 + i));
            }
        }
        return found;
    }

    private static void promise28AllRowsOfThree() {
        int[] grains = {11, 14, 9};
        SaltArmy x = Checks.land("p;p;cg11;cg14;cg9");
        for (int n = 1; n <= 4; n++) {
            for (int loss = 2; loss <= 5; loss++) {
                for (int bound = 0; bound <= 10; bound += 2) {
                    List<Integer> want = rows(n, loss, bound, grains, 0);
                    c.due("rows", x.pickets(n, loss, bound, NONE), want.size());
                    for (int i = 0; i < want.size(); i++) {
                        c.due("row " + i, x.pickets(n, loss, bound, i), want.get(i));
                    }
                    c.due("none behind them", x.pickets(n, loss, bound, want.size()), NONE);
                }
            }
        }
    }

    // ---- stock

    private static void promise29OutOfBounds() {
        int[] nights = {LOW, -1, 0, 7, 8, HIGH};
        for (int n : nights) {
            c.refused("stock for " + n, Scenes::busy, x -> x.stock(n, 1), NONE);
        }
        int[] losses = {LOW, -1, 0, 10, 11, HIGH};
        for (int loss : losses) {
            c.refused("stock with a loss of " + loss, Scenes::busy, x -> x.stock(1, loss), NONE);
        }
        c.refused("one night of 1", Scenes::busy, x -> x.stock(1, 1), 18);
        c.refused("six nights of 9", Scenes::busy, x -> x.stock(6, 9), 8);
        c.refused("six nights of 1", Scenes::busy, x -> x.stock(6, 1), 18);
        c.refused("one night of 9", Scenes::busy, x -> x.stock(1, 9), 18);
    }

    private static void promise29TheLeastBoundWithoutARow() {
        for (int grains = 1; grains <= 12; grains++) {
            SaltArmy x = Checks.land("p;p;cg" + grains);
            for (int n = 1; n <= 6; n++) {
                c.due(n + " nights of 2 with " + grains, x.stock(n, 2), grains < n * 2 ? 0 : grains - n * 2 + 1);
            }
        }
    }

    private static void promise29FromNoneToTheMost() {
        c.due("none even for 0", Checks.land("p;p;cg8").stock(1, 9), 0);
        c.due("only for 0", Checks.land("p;p;cg9").stock(1, 9), 1);
        c.due("the most", Checks.land("p;p;cg99").stock(1, 1), 99);
        c.due("two with 99", Checks.land("p;p;cg99;cg99").stock(2, 1), 99);
        c.due("three nights of two with 99", Checks.land("p;p;cg99;cg99").stock(3, 1), 98);
        c.due("the weakest does not stand", Checks.land("p;p;cg99;cg98").stock(1, 1), 99);
        SaltArmy nobody = Checks.land("p;p;cg5");
        nobody.hour(1);
        c.due("nobody lives", nobody.stock(1, 1), 0);
    }
}
