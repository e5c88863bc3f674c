import java.util.NoSuchElementException;
import java.util.Random;

/** Long runs of calls, most of them sensible, on the class and on the model: every answer must be the same. */
public final class AgainstModelTest {
    private static final int RUNS = 400;
    private static final int CALLS = 512;
    private static final int THROWN = -777;

    private static int wrong;
    private static long asked;

    private final Random random;
    private final int run;
    private final SaltArmy x = new SaltArmy();
    private final Model y = new Model();
    private int calls;
    private boolean failed;

    private AgainstModelTest(int run) {
        this.run = run;
        random = new Random(1000 + run);
    }

    public static void main(String[] args) {
        for (int run = 0; run < RUNS && wrong < 10; run++) {
            new AgainstModelTest(run).play();
        }
        System.out.println(asked + " answers, " + wrong + " wrong");
        if (wrong != 0) {
            System.exit(1);
        }
    }

    private void play() {
        if (random.nextInt(10) > 0) {
            tell(0, land());
        }
        while (calls < CALLS && !failed) {
            call();
        }
    }

    private void due(String call, long got, long want) {
        calls++;
        asked++;
        if (got != want && !failed) {
            failed = true;
            wrong++;
            System.out.println("run " + run + ", call " + calls + ": " + call + " answered " + got + ", the model " + want);
        }
    }

    private int any(int low, int high) {
        return low + random.nextInt(high - low + 1);
    }

    private boolean often() {
        return random.nextInt(4) > 0;
    }

    /** Mostly within the bounds, sometimes one beside them. */
    private int near(int low, int high) {
        int throwOf = random.nextInt(40);
        return throwOf == 0 ? low - 1 : throwOf == 1 ? high + 1 : any(low, high);
    }

    // ---- texts

    private String blank() {
        return random.nextInt(25) == 0 ? " " : "";
    }

    private String item(char letter, int low, int high) {
        if (random.nextInt(3) == 0) {
            return "";
        }
        int value = any(low, high);
        return letter + blank() + (value < 10 && random.nextInt(9) == 0 ? "0" : "") + value + blank();
    }

    private String land() {
        int places = random.nextInt(6) == 0 ? any(7, 8) : any(2, 6);
        StringBuilder text = new StringBuilder();
        for (int i = 0; i < places; i++) {
            text.append("p").append(item('h', 0, 9)).append(random.nextInt(3) == 0 ? "k1" : "")
                .append(item('r', 0, 99)).append(item('s', 0, 9)).append(";");
        }
        int ways = random.nextInt(5) == 0 ? any(0, 12) : Math.min(12, any(places - 1, places + 4));
        int longest = any(1, 4);
        for (int i = 0; i < ways; i++) {
            int a = i < places - 1 ? i : any(0, places - 1);
            int b = i < places - 1 ? i + 1 : (a + any(1, places - 1)) % places;
            text.append("wa").append(a).append("b").append(b).append(item('t', 1, longest))
                .append(random.nextInt(3) == 0 ? item('f', 0, 9) : "").append(";");
        }
        for (int i = any(0, 2); i > 0; i--) {
            text.append("fp").append(any(0, places - 1)).append(item('b', 0, 9)).append(";");
        }
        int companies = any(1, 5);
        for (int i = 0; i < companies; i++) {
            text.append("cp").append(any(0, places - 1)).append(item('g', 1, 99)).append(item('w', 0, 9))
                .append(item('m', 0, 3)).append(item('q', 0, 15)).append(i == companies - 1 ? "" : ";");
        }
        return text.toString();
    }

    private String atom(int deep) {
        int sort = random.nextInt(deep > 3 ? 4 : 5);
        return sort == 4 ? "[" + sum(deep + 1) + "]" : sort == 0 ? "" + any(0, 9999) : sort == 1 ? "" + any(0, 12)
                : "" + "gwhmt".charAt(any(0, 4));
    }

    private String sum(int deep) {
        StringBuilder text = new StringBuilder(atom(deep));
        for (int i = random.nextInt(3); i > 0; i--) {
            text.append(blank()).append("+-*/".charAt(any(0, 3))).append(blank()).append(atom(deep));
        }
        return text.toString();
    }

    private String condition(int deep) {
        int sort = random.nextInt(deep > 3 ? 3 : 7);
        return sort == 3 ? "(" + condition(deep + 1) + ")" : sort == 4 ? "!" + "(" + condition(deep + 1) + ")"
                : sort == 5 ? condition(deep + 1) + "|" + condition(deep + 1)
                : sort == 6 ? condition(deep + 1) + "&" + condition(deep + 1)
                : (sort == 0 ? "!" : "") + sum(deep) + "=<>".charAt(any(0, 2)) + sum(deep);
    }

    private String law() {
        StringBuilder text = new StringBuilder();
        int clauses = any(1, 4);
        for (int i = 0; i < clauses; i++) {
            text.append(i == 0 ? "" : ";").append("y").append(blank()).append(":");
            text.append(often() ? condition(0) + "?" : "").append(sum(0)).append(blank());
        }
        return text.toString();
    }

    private String orders() {
        StringBuilder text = new StringBuilder();
        int steps = random.nextInt(9) == 0 ? any(14, 17) : any(1, 6);
        for (int i = 0; i < steps; i++) {
            char sort = "mmmjdsrrrw".charAt(any(0, 9));
            text.append(i == 0 ? "" : ";").append(blank()).append(sort).append(blank());
            int digits = "mj".indexOf(sort) >= 0 ? 2 : "ds".indexOf(sort) >= 0 ? 1 : 0;
            for (int j = 0; j < digits; j++) {
                text.append(random.nextInt(20) == 0 ? any(0, 9) : any(0, 3)).append(blank());
            }
        }
        return text.toString();
    }

    private String spoilt(String text) {
        if (text.isEmpty()) {
            return text;
        }
        StringBuilder spoilt = new StringBuilder(text);
        String signs = "pwcfhkrsabtgmqy:;?!()[]=<>+-*/&|0123456789 jdx";
        for (int i = any(1, 2); i > 0 && spoilt.length() > 0; i--) {
            int at = random.nextInt(spoilt.length());
            char sign = signs.charAt(random.nextInt(signs.length()));
            switch (random.nextInt(4)) {
                case 0:
                    spoilt.deleteCharAt(at);
                    break;
                case 1:
                    spoilt.insert(at, sign);
                    break;
                case 2:
                    spoilt.setLength(at);
                    break;
                default:
                    spoilt.setCharAt(at, sign);
                    break;
            }
        }
        return spoilt.toString();
    }

    private void tell(int sort, String text) {
        due("end(0)", x.end(0) ? 1 : 0, y.end(0) ? 1 : 0);
        for (int from = 0; from < text.length(); from += 20) {
            int[] w = new int[5];
            for (int i = 0; i < 20 && from + i < text.length(); i++) {
                w[i / 4] |= (text.charAt(from + i) & 255) << 24 - i % 4 * 8;
            }
            due("feed", x.feed(w[0], w[1], w[2], w[3], w[4]), y.feed(w[0], w[1], w[2], w[3], w[4]));
        }
        due("fault " + sort + " of " + text, x.fault(sort), y.fault(sort));
        due("text " + sort + " of " + text, x.text(sort), y.text(sort));
    }

    // ---- calls

    private int aCompany() {
        return near(0, Math.max(0, y.count(2) - 1));
    }

    private int aPlace() {
        return near(0, Math.max(0, y.count(0) - 1));
    }

    private static int companyOrThrown(SaltArmy x, int company, int what) {
        try {
            return x.company(company, what);
        } catch (NoSuchElementException e) {
            return THROWN;
        }
    }

    private static int companyOrThrown(Model y, int company, int what) {
        try {
            return y.company(company, what);
        } catch (NoSuchElementException e) {
            return THROWN;
        }
    }

    private void look() {
        for (int what = 0; what <= 16; what++) {
            due("count " + what, x.count(what), y.count(what));
        }
        for (int i = 0; i < y.count(2); i++) {
            for (int what = 0; what < 6; what++) {
                due("company " + i + " " + what, companyOrThrown(x, i, what), companyOrThrown(y, i, what));
            }
        }
        for (int i = 0; i < y.count(0); i++) {
            for (int what = 4; what < 6; what++) {
                due("spot " + i + " " + what, x.spot(i, what), y.spot(i, what));
            }
        }
        // Looks are not counted: they are the test's, not the run's.
        calls -= 17 + 6 * y.count(2) + 2 * y.count(0);
    }

    private void call() {
        int sort = random.nextInt(100);
        if (sort < 4) {
            callText();
        } else if (sort < 40) {
            callAct();
        } else if (sort < 62) {
            callLook();
        } else {
            callAsk();
        }
        look();
    }

    private void callText() {
        int sort = random.nextInt(6) == 0 ? 0 : any(1, 2);
        String text = sort == 0 ? land() : sort == 1 ? law() : orders();
        tell(sort, random.nextInt(2) == 0 ? spoilt(text) : text);
        if (random.nextInt(3) == 0) {
            int n = near(0, 30);
            due("end " + n, x.end(n) ? 1 : 0, y.end(n) ? 1 : 0);
            int other = near(0, 2);
            due("fault " + other, x.fault(other), y.fault(other));
        }
    }

    private void callAct() {
        int a = aCompany();
        int b = aPlace();
        int c = aCompany();
        int mould = near(0, 3);
        int rains = often() ? random.nextInt(1 << Math.max(1, y.count(0))) : near(0, 255);
        int which = near(0, Math.max(0, y.count(5) - 1));
        switch (random.nextInt(14)) {
            case 0: case 1: case 2: case 3:
                due("march " + a + " " + b, x.march(a, b), y.march(a, b));
                break;
            case 4:
                due("join " + a + " " + c, x.join(a, c), y.join(a, c));
                break;
            case 5:
                due("dig " + a, x.dig(a), y.dig(a));
                break;
            case 6: case 7:
                due("cast " + b + " " + mould, x.cast(b, mould), y.cast(b, mould));
                break;
            case 8: case 9:
                due("hour " + rains, x.hour(rains), y.hour(rains));
                break;
            case 10:
                int n = random.nextInt(6) == 0 ? near(1, 48) : 1;
                long seed = random.nextLong();
                due("war " + n + " " + seed, x.war(n, seed), y.war(n, seed));
                break;
            case 11:
                for (int i = any(1, 3); i > 0; i--) {
                    due("undo", x.undo(), y.undo());
                }
                break;
            case 12:
                due("perform " + which, x.perform(which), y.perform(which));
                break;
            default:
                if (often()) {
                    due("back", x.back(), y.back());
                } else {
                    due("image", x.image(), y.image());
                }
                break;
        }
    }

    private void callLook() {
        int a = aCompany();
        int place = aPlace();
        int what = near(0, 5);
        int which = near(0, Math.max(0, y.count(5) - 1));
        switch (random.nextInt(12)) {
            case 0:
                due("spot " + place + " " + what, x.spot(place, what), y.spot(place, what));
                break;
            case 1:
                int way = near(0, Math.max(0, y.count(1) - 1));
                due("way " + way + " " + what, x.way(way, what), y.way(way, what));
                break;
            case 2:
                due("company " + a + " " + what, companyOrThrown(x, a, what), companyOrThrown(y, a, what));
                break;
            case 3:
                int foe = near(0, 2);
                due("foe " + foe + " " + what % 3, x.foe(foe, what % 3), y.foe(foe, what % 3));
                break;
            case 4:
                int law = near(-1, 3);
                due("law " + law, x.law(law) ? 1 : 0, y.law(law) ? 1 : 0);
                break;
            case 5:
                due("wear " + a, x.wear(a), y.wear(a));
                break;
            case 6:
                int i = near(0, 60);
                due("log " + i + " " + what, x.log(i, what), y.log(i, what));
                break;
            case 7:
                int j = near(0, 6);
                due("step " + which, x.step(which, j, what % 4), y.step(which, j, what % 4));
                break;
            case 8:
                due("run " + which, x.run(which, what % 3), y.run(which, what % 3));
                break;
            case 9:
                due("knows " + what, x.knows(what), y.knows(what));
                break;
            case 10:
                int r = near(0, 7);
                due("hears " + r, x.hears(r), y.hears(r));
                break;
            default:
                int to = aPlace();
                due("weakest", x.weakest(), y.weakest());
                due("reach " + place + " " + to, x.reach(place, to), y.reach(place, to));
                due("dry " + place, x.dry(place), y.dry(place));
                break;
        }
    }

    private void callAsk() {
        int a = aCompany();
        int to = aPlace();
        switch (random.nextInt(12)) {
            case 0: case 1:
                boolean rains = random.nextBoolean();
                int hour = near(1, random.nextInt(3) == 0 ? 24 : 6);
                due("sky", x.sky(to, hour, rains), y.sky(to, hour, rains));
                break;
            case 2: case 3: case 4:
                int sort = near(0, 2);
                int what = near(0, 7);
                due("best " + a + " " + to + " " + sort + " " + what, x.best(a, to, sort, what), y.best(a, to, sort, what));
                break;
            case 5:
                due("journeys " + a + " " + to, x.journeys(a, to), y.journeys(a, to));
                break;
            case 6:
                int part = near(0, 1);
                due("waits " + a + " " + to + " " + part, x.waits(a, to, part), y.waits(a, to, part));
                break;
            case 7:
                int which = near(0, 6);
                due("ambush " + a + " " + to + " " + which, x.ambush(a, to, which), y.ambush(a, to, which));
                break;
            case 8:
                callPickets();
                break;
            case 9:
                int grains = random.nextInt(3) == 0 ? near(0, 99) : any(0, 3) * 5;
                due("streak " + to, x.streak(to, grains), y.streak(to, grains));
                break;
            default:
                int i = random.nextInt(2) == 0 ? -1 : near(0, 40);
                due("rained " + a + " " + to + " " + i, x.rained(a, to, i), y.rained(a, to, i));
                break;
        }
    }

    private void callPickets() {
        int n = random.nextInt(8) == 0 ? near(1, 6) : near(1, 3);
        int loss = near(1, 9);
        int bound = random.nextInt(3) == 0 ? near(0, 99) : any(0, 20);
        int i = random.nextInt(3) == 0 ? -1 : random.nextInt(4) == 0 ? near(-1, 5000) : near(0, 30);
        due("pickets " + n + " " + loss + " " + bound + " " + i, x.pickets(n, loss, bound, i), y.pickets(n, loss, bound, i));
        if (n < 5) {
            due("stock " + n + " " + loss, x.stock(n, loss), y.stock(n, loss));
        }
    }
}
