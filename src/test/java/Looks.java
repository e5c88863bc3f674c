/** All that can be seen of an object, in some 300 calls: two that look alike were told and did the same. */
final class Looks {
    private final SaltArmy x;
    private final StringBuilder seen = new StringBuilder();

    private Looks(SaltArmy x) {
        this.x = x;
    }

    /** The object is not to be used behind this: in the end its acts are undone, its image and its laws taken. */
    static String at(SaltArmy x) {
        Looks looks = new Looks(x);
        looks.counts();
        looks.land();
        looks.orders();
        looks.logs();
        looks.asks();
        looks.tape();
        looks.laws();
        looks.past();
        return looks.seen.toString();
    }

    static String firstOther(String got, String due) {
        String[] a = got.split("\n");
        String[] b = due.split("\n");
        for (int i = 0; i < a.length && i < b.length; i++) {
            if (!a[i].equals(b[i])) {
                return " " + a[i] + ", without the call " + b[i];
            }
        }
        return " " + a.length + " looks, without the call " + b.length;
    }

    private void see(String what, int answer) {
        seen.append(what).append(" is ").append(answer).append('\n');
    }

    private void counts() {
        for (int what = 0; what <= 16; what++) {
            see("count " + what, x.count(what));
        }
    }

    private void changing() {
        for (int i = 0; i < x.count(2); i++) {
            for (int what = 0; what < 6; what++) {
                see("company " + i + " " + what, Checks.company(x, i, what));
            }
        }
        for (int i = 0; i < x.count(0); i++) {
            see("ground " + i, x.spot(i, 4));
            see("known " + i, x.spot(i, 5));
        }
        for (int i = 0; i < x.count(3); i++) {
            see("buckets " + i, x.foe(i, 1));
        }
    }

    private void land() {
        changing();
        for (int i = 0; i < x.count(0); i++) {
            for (int what = 0; what < 4; what++) {
                see("spot " + i + " " + what, x.spot(i, what));
            }
        }
        for (int i = 0; i < x.count(1); i++) {
            for (int what = 0; what < 4; what++) {
                see("way " + i + " " + what, x.way(i, what));
            }
        }
        for (int i = 0; i < x.count(3); i++) {
            see("foe " + i, x.foe(i, 0));
        }
    }

    private void orders() {
        for (int i = 0; i < x.count(5); i++) {
            see("run " + i, x.run(i, 0));
            see("run's grains " + i, x.run(i, 1));
            for (int what = 0; what < 3; what++) {
                see("step " + i, x.step(i, 0, what));
                see("last step " + i, x.step(i, 15, what));
            }
        }
    }

    private void logs() {
        int size = x.count(16);
        for (int what = 0; what < 3; what++) {
            see("log 0 " + what, x.log(0, what));
            see("log 1 " + what, x.log(1, what));
            see("log's end " + what, x.log(size - 1, what));
        }
    }

    private void asks() {
        for (int thing = 0; thing < 4; thing++) {
            see("knows " + thing, x.knows(thing));
        }
        see("hears 0", x.hears(0));
        see("hears 1", x.hears(1));
        see("weakest", x.weakest());
        see("stock", x.stock(2, 3));
        int one = Math.max(0, x.weakest());
        for (int to = 0; to < x.count(0); to++) {
            see("best to " + to, x.best(one, to, 0, 0));
            see("waits to " + to, x.waits(one, to, 1));
            see("rained to " + to, x.rained(one, to, -1));
        }
    }

    private void tape() {
        for (int sort = 0; sort < 3; sort++) {
            see("fault " + sort, x.fault(sort));
        }
    }

    private void laws() {
        int one = Math.max(0, x.weakest());
        see("wear", x.wear(one));
        for (int law = -1; law < x.count(4); law++) {
            x.law(law);
            see("wear by " + law, x.wear(one));
        }
    }

    private void past() {
        for (int i = 0; i < 3; i++) {
            see("undo", x.undo());
            see("hour then", x.count(8));
            see("all grains then", x.count(12));
            see("log then", x.count(16));
            see("grains then", Checks.company(x, 0, 2));
        }
        see("back", x.back());
        see("acts then", x.count(15));
        see("log then", x.log(0, 1));
        changing();
    }
}
