import java.math.BigInteger;
import java.util.ArrayList;
import java.util.Arrays;
import java.util.HashMap;
import java.util.HashSet;
import java.util.List;
import java.util.Map;
import java.util.NoSuchElementException;
import java.util.Set;
import java.util.TreeMap;

/**
 * The document told a second time, as slowly and as plainly as can be, to hold the class against:
 * faults are found by asking of each beginning of a text whether it could still become one.
 */
final class Model {
    private static final int NONE = -1;
    private static final int HIDDEN = -1000000;

    static final class Company {
        int place, left, way, grains, wear, mould, knows;

        Company copy() {
            Company c = new Company();
            c.place = place;
            c.left = left;
            c.way = way;
            c.grains = grains;
            c.wear = wear;
            c.mould = mould;
            c.knows = knows;
            return c;
        }
    }

    static final class State {
        List<Company> companies = new ArrayList<>();
        int[] ground = new int[8];
        int[] lore = new int[8];
        int[] buckets = new int[3];
        int river, dug, hour;
        List<int[]> log = new ArrayList<>();

        State copy() {
            State s = new State();
            for (Company c : companies) {
                s.companies.add(c.copy());
            }
            s.ground = ground.clone();
            s.lore = lore.clone();
            s.buckets = buckets.clone();
            s.river = river;
            s.dug = dug;
            s.hour = hour;
            s.log = new ArrayList<>(log);
            return s;
        }
    }

    private String tape = "";
    private List<Map<Character, Integer>> places = new ArrayList<>();
    private List<Map<Character, Integer>> ways = new ArrayList<>();
    private List<Map<Character, Integer>> foes = new ArrayList<>();
    private final List<String> laws = new ArrayList<>();
    private final List<String> orders = new ArrayList<>();
    private int holding = NONE;
    private State now = new State();
    private State image;
    private List<State> acts = new ArrayList<>();
    private List<int[]> skies = new ArrayList<>();
    private List<int[]> streaks = new ArrayList<>();

    // ---- texts

    int feed(int a, int b, int c, int d, int e) {
        StringBuilder more = new StringBuilder();
        for (int word : new int[] {a, b, c, d, e}) {
            for (byte sign : BigInteger.valueOf(word & 0xffffffffL | 1L << 32).toByteArray()) {
                more.append((char) (sign & 255));
            }
            more.deleteCharAt(more.length() - 5);
        }
        String all = tape + more.toString().replace("\0", "");
        if (all.length() > 240) {
            return NONE;
        }
        tape = all;
        return tape.length();
    }

    boolean end(int n) {
        if (n < 0 || n > tape.length()) {
            return false;
        }
        tape = tape.substring(0, n);
        return true;
    }

    /** What a text is, cut at the first wrong byte: its place is the answer. */
    static final class Wrong extends RuntimeException {
        private static final long serialVersionUID = 1L;
        final int at;

        Wrong(int at) {
            super(null, null, false, false);
            this.at = at;
        }
    }

    static final class Pen {
        final String text;
        int at;

        Pen(String text) {
            this.text = text;
        }

        char next() {
            while (at < text.length() && text.charAt(at) == ' ') {
                at++;
            }
            return at < text.length() ? text.charAt(at) : 0;
        }

        boolean ended() {
            return next() == 0;
        }

        char oneOf(String signs) {
            char sign = next();
            if (sign == 0 || signs.indexOf(sign) < 0) {
                throw new Wrong(at);
            }
            at++;
            return sign;
        }

        boolean has(String signs) {
            char sign = next();
            return sign != 0 && signs.indexOf(sign) >= 0;
        }

        int number(int digits, int low, int high) {
            oneOf("0123456789");
            int from = at - 1;
            while (at < text.length() && Character.isDigit(text.charAt(at)) && text.charAt(at) < 128) {
                at++;
            }
            if (at - from > digits) {
                throw new Wrong(from + digits);
            }
            int value = Integer.parseInt(text.substring(from, at));
            if (value < low || value > high) {
                throw new Wrong(at - 1);
            }
            return value;
        }
    }

    private static Map<Character, Integer> row(Object... items) {
        Map<Character, Integer> row = new HashMap<>();
        for (int i = 0; i < items.length; i += 2) {
            row.put((Character) items[i], (Integer) items[i + 1]);
        }
        return row;
    }

    private static int[] bounds(char kind, char item) {
        switch ("" + kind + item) {
            case "ph": case "ps": case "wf": case "cw": case "fb":
                return new int[] {0, 9};
            case "pk":
                return new int[] {0, 1};
            case "pr":
                return new int[] {0, 99};
            case "wa": case "wb": case "cp": case "fp":
                return new int[] {0, 7};
            case "wt":
                return new int[] {1, 9};
            case "cg":
                return new int[] {1, 99};
            case "cm":
                return new int[] {0, 3};
            case "cq":
                return new int[] {0, 15};
            default:
                return null;
        }
    }

    private static Map<Character, List<Map<Character, Integer>>> readLand(String text) {
        Map<Character, List<Map<Character, Integer>>> all = new HashMap<>();
        Map<Character, Integer> most = row('p', 8, 'w', 12, 'c', 5, 'f', 3);
        for (char kind : "pwcf".toCharArray()) {
            all.put(kind, new ArrayList<>());
        }
        Pen pen = new Pen(text);
        while (true) {
            char kind = pen.oneOf("pwcf");
            if (all.get(kind).size() == most.get(kind)) {
                throw new Wrong(pen.at - 1);
            }
            Map<Character, Integer> clause = kind == 'p' ? row('h', 0, 'k', 0, 'r', 20, 's', 0)
                    : kind == 'w' ? row('a', 0, 'b', 1, 't', 1, 'f', 0)
                    : kind == 'c' ? row('p', 0, 'g', 50, 'w', 5, 'm', 0, 'q', 0) : row('p', 0, 'b', 2);
            Set<Character> seen = new HashSet<>();
            while (pen.next() != 0 && bounds(kind, pen.next()) != null) {
                char item = pen.next();
                if (!seen.add(item)) {
                    throw new Wrong(pen.at);
                }
                pen.at++;
                int[] bounds = bounds(kind, item);
                clause.put(item, pen.number(2, bounds[0], bounds[1]));
            }
            all.get(kind).add(clause);
            if (pen.ended()) {
                break;
            }
            pen.oneOf(";");
        }
        int places = all.get('p').size();
        boolean whole = places >= 2 && !all.get('c').isEmpty();
        for (Map<Character, Integer> way : all.get('w')) {
            whole &= way.get('a') < places && way.get('b') < places && !way.get('a').equals(way.get('b'));
        }
        for (char kind : "cf".toCharArray()) {
            for (Map<Character, Integer> one : all.get(kind)) {
                whole &= one.get('p') < places;
            }
        }
        if (!whole) {
            throw new Wrong(text.length());
        }
        return all;
    }

    /** Reads a law and, in the same breath, reckons it by the letters: g w h m t. */
    private static long law(String text, Map<Character, Long> letters) {
        Pen pen = new Pen(text);
        Long worth = null;
        while (true) {
            pen.oneOf("y");
            pen.oneOf(":");
            boolean holds = true;
            long value;
            if (pen.has("!(")) {
                holds = condition(pen, letters, 0, null);
                pen.oneOf("?");
                value = sum(pen, letters, 0);
            } else {
                value = sum(pen, letters, 0);
                if (pen.has("=<>")) {
                    holds = condition(pen, letters, 0, value);
                    pen.oneOf("?");
                    value = sum(pen, letters, 0);
                }
            }
            if (holds && worth == null) {
                worth = value;
            }
            if (pen.ended()) {
                return worth == null ? 0 : worth;
            }
            pen.oneOf(";");
        }
    }

    private static boolean condition(Pen pen, Map<Character, Long> letters, int deep, Long first) {
        boolean holds = truth(pen, letters, deep, first);
        while (pen.has("|")) {
            pen.at++;
            holds |= truth(pen, letters, deep, null);
        }
        return holds;
    }

    private static boolean truth(Pen pen, Map<Character, Long> letters, int deep, Long first) {
        boolean holds = unit(pen, letters, deep, first);
        while (pen.has("&")) {
            pen.at++;
            holds &= unit(pen, letters, deep, null);
        }
        return holds;
    }

    private static int deeper(Pen pen, int deep) {
        if (deep == 6) {
            throw new Wrong(pen.at);
        }
        pen.at++;
        return deep + 1;
    }

    private static boolean unit(Pen pen, Map<Character, Long> letters, int deep, Long first) {
        if (first == null && pen.has("!")) {
            return !unit(pen, letters, deeper(pen, deep), null);
        }
        if (first == null && pen.has("(")) {
            boolean holds = condition(pen, letters, deeper(pen, deep), null);
            pen.oneOf(")");
            return holds;
        }
        long left = first == null ? sum(pen, letters, deep) : first;
        char sign = pen.oneOf("=<>");
        long right = sum(pen, letters, deep);
        return sign == '=' ? left == right : sign == '<' ? left < right : left > right;
    }

    private static long held(long value) {
        return Math.max(-1000000, Math.min(1000000, value));
    }

    private static long sum(Pen pen, Map<Character, Long> letters, int deep) {
        long value = term(pen, letters, deep);
        while (pen.has("+-")) {
            char sign = pen.oneOf("+-");
            long more = term(pen, letters, deep);
            value = held(sign == '+' ? value + more : value - more);
        }
        return value;
    }

    private static long term(Pen pen, Map<Character, Long> letters, int deep) {
        long value = atom(pen, letters, deep);
        while (pen.has("*/")) {
            char sign = pen.oneOf("*/");
            long more = atom(pen, letters, deep);
            value = held(sign == '*' ? value * more : more == 0 ? 0 : value / more);
        }
        return value;
    }

    private static long atom(Pen pen, Map<Character, Long> letters, int deep) {
        if (pen.has("[")) {
            long value = sum(pen, letters, deeper(pen, deep));
            pen.oneOf("]");
            return value;
        }
        if (pen.has("gwhmt")) {
            return letters.get(pen.oneOf("gwhmt"));
        }
        return pen.number(4, 0, 9999);
    }

    private static List<int[]> readOrders(String text) {
        List<int[]> steps = new ArrayList<>();
        Pen pen = new Pen(text);
        while (true) {
            char sort = pen.oneOf("mjdsrw");
            int[] step = {"mjdsrw".indexOf(sort), NONE, NONE};
            int digits = "mj".indexOf(sort) >= 0 ? 2 : "ds".indexOf(sort) >= 0 ? 1 : 0;
            for (int i = 1; i <= digits; i++) {
                step[i] = pen.oneOf("0123456789") - '0';
            }
            steps.add(step);
            if (pen.ended()) {
                return steps;
            }
            if (steps.size() == 16) {
                throw new Wrong(pen.at);
            }
            pen.oneOf(";");
        }
    }

    private static Map<Character, Long> letters(long g, long w, long h, long m, long t) {
        Map<Character, Long> letters = new HashMap<>();
        letters.put('g', g);
        letters.put('w', w);
        letters.put('h', h);
        letters.put('m', m);
        letters.put('t', t);
        return letters;
    }

    int fault(int sort) {
        if (sort < 0 || sort > 2) {
            return -2;
        }
        try {
            if (sort == 0) {
                readLand(tape);
            } else if (sort == 1) {
                law(tape, letters(0, 0, 0, 0, 0));
            } else {
                readOrders(tape);
            }
            return NONE;
        } catch (Wrong wrong) {
            return wrong.at;
        }
    }

    int text(int sort) {
        if (fault(sort) != NONE || sort > 0 && (sort == 1 ? laws : orders).size() == 4) {
            return NONE;
        }
        String told = tape;
        tape = "";
        if (sort > 0) {
            List<String> texts = sort == 1 ? laws : orders;
            texts.add(told);
            return texts.size() - 1;
        }
        Map<Character, List<Map<Character, Integer>>> land = readLand(told);
        places = land.get('p');
        ways = land.get('w');
        foes = land.get('f');
        now = new State();
        for (Map<Character, Integer> one : land.get('c')) {
            Company c = new Company();
            c.place = one.get('p');
            c.grains = one.get('g');
            c.wear = one.get('w');
            c.mould = one.get('m');
            c.knows = one.get('q');
            now.companies.add(c);
        }
        for (int i = 0; i < foes.size(); i++) {
            now.buckets[i] = foes.get(i).get('b');
        }
        image = null;
        acts = new ArrayList<>();
        skies = new ArrayList<>();
        streaks = new ArrayList<>();
        return now.companies.size();
    }

    // ---- what is told

    private boolean noLand() {
        return places.isEmpty();
    }

    private boolean isPlace(int place) {
        return place >= 0 && place < places.size();
    }

    private boolean lives(State s, int c) {
        return c >= 0 && c < s.companies.size() && s.companies.get(c).grains > 0;
    }

    private boolean isThere(State s, int c) {
        return lives(s, c) && s.companies.get(c).left == 0;
    }

    int spot(int place, int what) {
        if (!isPlace(place) || what < 0 || what > 5) {
            return NONE;
        }
        return what == 4 ? now.ground[place] : what == 5 ? now.lore[place] : places.get(place).get("hkrs".charAt(what));
    }

    int way(int way, int what) {
        return way < 0 || way >= ways.size() || what < 0 || what > 3 ? NONE : ways.get(way).get("abtf".charAt(what));
    }

    int company(int company, int what) {
        if (company < 0 || company >= now.companies.size() || what < 0 || what > 5) {
            throw new NoSuchElementException();
        }
        Company c = now.companies.get(company);
        return new int[] {c.place, c.left, c.grains, c.wear, c.mould, c.knows}[what];
    }

    int foe(int foe, int what) {
        if (foe < 0 || foe >= foes.size() || what < 0 || what > 1) {
            return NONE;
        }
        return what == 0 ? foes.get(foe).get('p') : now.buckets[foe];
    }

    boolean law(int law) {
        if (law < NONE || law >= laws.size()) {
            return false;
        }
        holding = law;
        return true;
    }

    private int loss(int g, int w, int place, int m, int t) {
        int h = places.get(place).get('h');
        long worth = holding == NONE ? w - h / 3 : law(laws.get(holding), letters(g, w, h, m, t));
        return (int) Math.min(g, Math.max(0, Math.min(99, worth)));
    }

    private int loss(State s, Company c) {
        return loss(c.grains, c.wear, c.place, c.mould, s.hour);
    }

    int wear(int company) {
        return lives(now, company) ? loss(now, now.companies.get(company)) : NONE;
    }

    // ---- acts

    private int lowestWay(int a, int b) {
        for (int i = 0; i < ways.size(); i++) {
            int one = ways.get(i).get('a');
            int other = ways.get(i).get('b');
            if (one == a && other == b || one == b && other == a) {
                return i;
            }
        }
        return NONE;
    }

    private int doMarch(State s, int company, int place) {
        if (!isThere(s, company) || !isPlace(place) || lowestWay(s.companies.get(company).place, place) == NONE) {
            return NONE;
        }
        Company c = s.companies.get(company);
        c.way = lowestWay(c.place, place);
        c.left = ways.get(c.way).get('t');
        c.place = place;
        return c.left;
    }

    private int doJoin(State s, int one, int other) {
        if (one == other || !isThere(s, one) || !isThere(s, other)) {
            return NONE;
        }
        Company a = s.companies.get(one);
        Company b = s.companies.get(other);
        if (a.place != b.place) {
            return NONE;
        }
        a.grains += b.grains;
        a.knows |= b.knows;
        b.grains = 0;
        b.knows = 0;
        while (a.grains > 99) {
            a.grains--;
            s.ground[a.place]++;
        }
        return a.grains;
    }

    private int doDig(State s, int company) {
        if (!isThere(s, company)) {
            return NONE;
        }
        Company c = s.companies.get(company);
        int salt = places.get(c.place).get('s');
        if (salt == 0 || c.grains == 99) {
            return NONE;
        }
        for (int i = 0; i < salt && c.grains < 99; i++) {
            c.grains++;
            s.dug++;
        }
        return c.grains;
    }

    private int doCast(State s, int place, int mould) {
        if (!isPlace(place) || mould < 0 || mould > 3 || s.ground[place] == 0 || s.companies.size() == 8) {
            return NONE;
        }
        Company c = new Company();
        c.place = place;
        c.mould = mould;
        c.wear = 5;
        c.knows = s.lore[place];
        s.lore[place] = 0;
        while (c.grains < 99 && s.ground[place] > 0) {
            c.grains++;
            s.ground[place]--;
        }
        s.companies.add(c);
        return s.companies.size() - 1;
    }

    private int doHour(State s, int rains) {
        int before = 0;
        List<Company> living = new ArrayList<>();
        for (Company c : s.companies) {
            before += c.grains;
            if (c.grains > 0) {
                living.add(c);
            }
        }
        for (int place = 0; place < places.size(); place++) {
            boolean roof = places.get(place).get('k') == 1;
            for (Company c : living) {
                if ((rains >> place & 1) == 1 && c.place == place && c.grains > 0 && (c.left > 0 || !roof)) {
                    fall(s, c, loss(s, c));
                }
            }
        }
        for (Company c : living) {
            if (c.grains > 0 && c.left > 0 && --c.left == 0) {
                int ford = Math.min(c.grains, ways.get(c.way).get('f'));
                s.river += ford;
                c.grains -= ford;
                c.knows = c.grains == 0 ? 0 : c.knows;
            }
        }
        for (int f = 0; f < foes.size(); f++) {
            for (Company c : living) {
                if (s.buckets[f] > 0 && c.grains > 0 && c.left == 0 && c.place == foes.get(f).get('p')) {
                    s.buckets[f]--;
                    fall(s, c, 5);
                    break;
                }
            }
        }
        s.hour++;
        for (Company c : living) {
            if (s.hour % 6 == 0 && c.grains > 0 && (c.left > 0 || places.get(c.place).get('k') == 0)) {
                fall(s, c, 1);
            }
        }
        int gone = 0;
        for (Company c : living) {
            before -= c.grains;
            gone += c.grains == 0 ? 1 : 0;
        }
        s.log.add(0, new int[] {rains, before, gone});
        if (s.log.size() > 60) {
            s.log.remove(60);
        }
        return s.hour;
    }

    private static void fall(State s, Company c, int grains) {
        for (int i = 0; i < grains && c.grains > 0; i++) {
            c.grains--;
            s.ground[c.place]++;
        }
        if (c.grains == 0) {
            s.lore[c.place] |= c.knows;
            c.knows = 0;
        }
    }

    private int act(int sort, int a, int b) {
        if (noLand()) {
            return NONE;
        }
        State before = now.copy();
        int answer = step(now, sort, a, b);
        if (answer != NONE) {
            acts.add(before);
            if (acts.size() > 40) {
                acts.remove(0);
            }
        }
        return answer;
    }

    private int step(State s, int sort, int a, int b) {
        switch (sort) {
            case 0:
                return doMarch(s, a, b);
            case 1:
                return doJoin(s, a, b);
            case 2:
                return doDig(s, a);
            case 3:
                return doCast(s, a, b);
            default:
                return doHour(s, a);
        }
    }

    int march(int company, int place) {
        return act(0, company, place);
    }

    int join(int one, int other) {
        return act(1, one, other);
    }

    int dig(int company) {
        return act(2, company, 0);
    }

    int cast(int place, int mould) {
        return act(3, place, mould);
    }

    int hour(int rains) {
        return noLand() || rains < 0 || rains >= 1 << places.size() ? NONE : act(4, rains, 0);
    }

    int war(int n, long seed) {
        if (noLand() || n < 1 || n > 48) {
            return NONE;
        }
        BigInteger round = BigInteger.ONE.shiftLeft(64);
        BigInteger x = BigInteger.valueOf(seed).mod(round);
        for (int i = 0; i < n; i++) {
            int rains = 0;
            for (int place = 0; place < places.size(); place++) {
                x = x.multiply(new BigInteger("6364136223846793005")).add(new BigInteger("1442695040888963407")).mod(round);
                if (x.shiftRight(33).mod(BigInteger.valueOf(100)).intValue() < places.get(place).get('r')) {
                    rains += 1 << place;
                }
            }
            hour(rains);
        }
        return now.hour;
    }

    int undo() {
        if (acts.isEmpty()) {
            return NONE;
        }
        now = acts.remove(acts.size() - 1);
        return acts.size();
    }

    int log(int i, int what) {
        return i < 0 || i >= now.log.size() || what < 0 || what > 2 ? NONE : now.log.get(i)[what];
    }

    int step(int which, int i, int what) {
        if (which < 0 || which >= orders.size() || what < 0 || what > 2) {
            return NONE;
        }
        List<int[]> steps = readOrders(orders.get(which));
        return i < 0 || i >= steps.size() ? NONE : steps.get(i)[what];
    }

    private int[] asAct(int[] step) {
        int all = (1 << places.size()) - 1;
        return step[0] >= 4 ? new int[] {4, step[0] == 5 ? all : 0, 0} : new int[] {step[0], step[1], Math.max(0, step[2])};
    }

    int run(int which, int what) {
        if (noLand() || which < 0 || which >= orders.size() || what < 0 || what > 1) {
            return HIDDEN;
        }
        State s = now.copy();
        int done = 0;
        List<int[]> steps = readOrders(orders.get(which));
        for (int[] step : steps) {
            int[] act = asAct(step);
            if (step(s, act[0], act[1], act[2]) == NONE) {
                break;
            }
            done++;
        }
        int grains = 0;
        for (Company c : s.companies) {
            grains += c.grains;
        }
        return what == 1 ? grains : done == steps.size() ? NONE : done;
    }

    int perform(int which) {
        if (noLand() || which < 0 || which >= orders.size()) {
            return NONE;
        }
        int done = 0;
        for (int[] step : readOrders(orders.get(which))) {
            int[] act = asAct(step);
            if (act(act[0], act[1], act[2]) == NONE) {
                break;
            }
            done++;
        }
        return done;
    }

    // ---- journeys

    int sky(int place, int hour, boolean rains) {
        if (!isPlace(place) || hour < 1 || hour > 24 || skies.size() == 16) {
            return NONE;
        }
        skies.add(new int[] {place, hour, rains ? 100 : 0});
        return skies.size();
    }

    private int chance(int place, int hour) {
        int chance = places.get(place).get('r');
        for (int[] told : skies) {
            chance = told[0] == place && told[1] == hour ? told[2] : chance;
        }
        return chance;
    }

    /** Null: no such company, no such place. */
    private List<List<Integer>> rows(int company, int to) {
        if (!isThere(now, company) || !isPlace(to) || now.companies.get(company).place == to) {
            return null;
        }
        List<List<Integer>> ended = new ArrayList<>();
        List<List<Integer>> open = new ArrayList<>();
        open.add(List.of(now.companies.get(company).place));
        while (!open.isEmpty()) {
            List<List<Integer>> longer = new ArrayList<>();
            for (List<Integer> row : open) {
                for (int place = 0; place < places.size(); place++) {
                    if (!row.contains(place) && lowestWay(row.get(row.size() - 1), place) != NONE) {
                        List<Integer> next = new ArrayList<>(row);
                        next.add(place);
                        (place == to ? ended : longer).add(next);
                    }
                }
            }
            open = longer;
        }
        ended.sort((a, b) -> {
            for (int i = 0; i < Math.min(a.size(), b.size()); i++) {
                if (!a.get(i).equals(b.get(i))) {
                    return a.get(i) - b.get(i);
                }
            }
            return a.size() - b.size();
        });
        return ended.size() > 200 ? ended.subList(0, 200) : ended;
    }

    private int hours(List<Integer> row) {
        int hours = 0;
        for (int i = 1; i < row.size(); i++) {
            hours += ways.get(lowestWay(row.get(i - 1), row.get(i))).get('t');
        }
        return hours;
    }

    private TreeMap<Integer, Long> rain(TreeMap<Integer, Long> parts, Company c, int place, int hour) {
        TreeMap<Integer, Long> then = new TreeMap<>();
        for (Map.Entry<Integer, Long> part : parts.entrySet()) {
            int g = part.getKey();
            long wet = g == 0 ? 0 : part.getValue() * chance(place, hour) / 100;
            then.merge(g, part.getValue() - wet, Long::sum);
            if (wet > 0) {
                then.merge(g - loss(g, c.wear, place, c.mould, now.hour + hour - 1), wet, Long::sum);
            }
        }
        return then;
    }

    private static TreeMap<Integer, Long> pour(TreeMap<Integer, Long> parts, int grains) {
        TreeMap<Integer, Long> then = new TreeMap<>();
        parts.forEach((g, part) -> then.merge(Math.max(0, g - grains), part, Long::sum));
        return then;
    }

    /** Parts at the end, having waited so long, ambushed at a place (NONE: at none). */
    private TreeMap<Integer, Long> arrive(Company c, List<Integer> row, int wait, int ambush) {
        TreeMap<Integer, Long> parts = new TreeMap<>();
        parts.put(c.grains, 1000000000L);
        int hour = 1;
        for (; hour <= wait; hour++) {
            if (places.get(c.place).get('k') == 0) {
                parts = rain(parts, c, c.place, hour);
            }
        }
        for (int i = 1; i < row.size(); i++) {
            Map<Character, Integer> way = ways.get(lowestWay(row.get(i - 1), row.get(i)));
            for (int j = 0; j < way.get('t'); j++) {
                parts = rain(parts, c, row.get(i), hour);
                hour++;
            }
            parts = pour(parts, way.get('f'));
            if (row.get(i) == ambush) {
                parts = pour(parts, 10);
            }
        }
        return parts;
    }

    private static int mean(TreeMap<Integer, Long> parts) {
        BigInteger all = BigInteger.ZERO;
        for (Map.Entry<Integer, Long> part : parts.entrySet()) {
            all = all.add(BigInteger.valueOf(part.getKey()).multiply(BigInteger.valueOf(part.getValue())));
        }
        return all.divide(BigInteger.valueOf(1000000)).intValue();
    }

    private static int sure(TreeMap<Integer, Long> parts) {
        long sure = 0;
        for (Map.Entry<Integer, Long> part : parts.entrySet()) {
            sure += part.getKey() > 0 ? part.getValue() : 0;
        }
        return (int) sure;
    }

    private static int firstGreatest(int[] values) {
        int best = 0;
        for (int i = 0; i < values.length; i++) {
            best = values[i] > values[best] ? i : best;
        }
        return best;
    }

    private List<Integer> bestRow(Company c, List<List<Integer>> rows, int sort) {
        int[] values = new int[rows.size()];
        for (int i = 0; i < values.length; i++) {
            values[i] = sort == 2 ? -hours(rows.get(i))
                    : sort == 1 ? sure(arrive(c, rows.get(i), 0, NONE))
                    : sort == 0 ? mean(arrive(c, rows.get(i), 0, NONE)) : leastMean(c, rows.get(i));
        }
        return rows.get(firstGreatest(values));
    }

    private int leastMean(Company c, List<Integer> row) {
        int least = mean(arrive(c, row, 0, NONE));
        for (int place : row.subList(1, row.size())) {
            least = Math.min(least, mean(arrive(c, row, 0, place)));
        }
        return least;
    }

    private static int placeOf(List<Integer> row, int i) {
        return i < row.size() ? row.get(i) : HIDDEN;
    }

    int best(int company, int to, int sort, int what) {
        List<List<Integer>> rows = rows(company, to);
        if (rows == null || rows.isEmpty() || sort < 0 || sort > 2 || what < 0) {
            return HIDDEN;
        }
        Company c = now.companies.get(company);
        List<Integer> row = bestRow(c, rows, sort);
        return what == 0 ? mean(arrive(c, row, 0, NONE)) : what == 1 ? sure(arrive(c, row, 0, NONE))
                : what == 2 ? hours(row) : placeOf(row, what - 3);
    }

    int journeys(int company, int to) {
        List<List<Integer>> rows = rows(company, to);
        return rows == null ? NONE : rows.size();
    }

    int waits(int company, int to, int what) {
        List<List<Integer>> rows = rows(company, to);
        if (rows == null || rows.isEmpty() || what < 0 || what > 1) {
            return HIDDEN;
        }
        Company c = now.companies.get(company);
        List<Integer> row = bestRow(c, rows, 2);
        int[] means = new int[13];
        for (int wait = 0; wait < 13; wait++) {
            means[wait] = mean(arrive(c, row, wait, NONE));
        }
        int best = firstGreatest(means);
        return what == 0 ? best : means[best];
    }

    int ambush(int company, int to, int what) {
        List<List<Integer>> rows = rows(company, to);
        if (rows == null || rows.isEmpty() || what < 0) {
            return HIDDEN;
        }
        Company c = now.companies.get(company);
        if (what == 1) {
            List<Integer> row = bestRow(c, rows, 0);
            int least = mean(arrive(c, row, 0, NONE));
            int worst = NONE;
            for (int place = 0; place < places.size(); place++) {
                int mean = place == c.place ? least : mean(arrive(c, row, 0, place));
                if (mean < least) {
                    least = mean;
                    worst = place;
                }
            }
            return worst;
        }
        List<Integer> row = bestRow(c, rows, 3);
        return what == 0 ? leastMean(c, row) : placeOf(row, what - 2);
    }

    // ---- pickets and streaks

    private void rowsOfPickets(List<Integer> found, int[] grains, int nights, int loss, int bound, int row) {
        if (nights == 0) {
            found.add(row);
            return;
        }
        for (int i = 0; i < grains.length; i++) {
            if (!lives(now, i) || grains[i] < loss) {
                continue;
            }
            int[] then = grains.clone();
            then[i] -= loss;
            boolean holds = true;
            for (int j = 0; j < then.length; j++) {
                holds &= !lives(now, j) || then[j] >= bound;
            }
            if (holds) {
                rowsOfPickets(found, then, nights - 1, loss, bound, row * 10 + i);
            }
        }
    }

    private List<Integer> allPickets(int n, int loss, int bound) {
        List<Integer> found = new ArrayList<>();
        int[] grains = new int[now.companies.size()];
        for (int i = 0; i < grains.length; i++) {
            grains[i] = now.companies.get(i).grains;
        }
        rowsOfPickets(found, grains, n, loss, bound, 0);
        return found;
    }

    int pickets(int n, int loss, int bound, int i) {
        if (noLand() || n < 1 || n > 6 || loss < 1 || loss > 9 || bound < 0 || bound > 99 || i < NONE) {
            return NONE;
        }
        List<Integer> found = allPickets(n, loss, bound);
        return i == NONE ? found.size() : i < found.size() ? found.get(i) : NONE;
    }

    int stock(int n, int loss) {
        if (noLand() || n < 1 || n > 6 || loss < 1 || loss > 9) {
            return NONE;
        }
        int low = 0;
        int high = 100;
        while (low < high) {
            int middle = (low + high) / 2;
            if (allPickets(n, loss, middle).isEmpty()) {
                high = middle;
            } else {
                low = middle + 1;
            }
        }
        return low;
    }

    int streak(int place, int grains) {
        if (!isPlace(place) || grains < 0 || grains > 99 || streaks.size() == 8) {
            return NONE;
        }
        streaks.add(new int[] {place, grains});
        return streaks.size();
    }

    int rained(int company, int to, int i) {
        List<List<Integer>> rows = rows(company, to);
        if (rows == null || rows.isEmpty() || i < NONE) {
            return NONE;
        }
        Company c = now.companies.get(company);
        List<Integer> row = bestRow(c, rows, 2);
        if (hours(row) > 12) {
            return NONE;
        }
        List<Integer> sets = new ArrayList<>();
        for (int set = 0; set < 1 << hours(row); set++) {
            int[] lost = new int[8];
            int grains = c.grains;
            int hour = 0;
            for (int j = 1; j < row.size(); j++) {
                Map<Character, Integer> way = ways.get(lowestWay(row.get(j - 1), row.get(j)));
                for (int k = 0; k < way.get('t'); k++) {
                    if ((set >> hour & 1) == 1 && grains > 0) {
                        int loss = loss(grains, c.wear, row.get(j), c.mould, now.hour + hour);
                        grains -= loss;
                        lost[row.get(j)] += loss;
                    }
                    hour++;
                }
                grains = Math.max(0, grains - way.get('f'));
            }
            boolean fits = true;
            for (int[] streak : streaks) {
                fits &= lost[streak[0]] == streak[1];
            }
            if (fits) {
                sets.add(set);
            }
        }
        return i == NONE ? sets.size() : i < sets.size() ? sets.get(i) : NONE;
    }

    // ---- who knows, who is near

    int knows(int thing) {
        if (noLand() || thing < 0 || thing > 3) {
            return NONE;
        }
        int set = 0;
        for (int i = 0; i < now.companies.size(); i++) {
            set |= lives(now, i) && (now.companies.get(i).knows & 1 << thing) != 0 ? 1 << i : 0;
        }
        return set;
    }

    private int[][] apart(boolean byHours) {
        int[][] apart = new int[places.size()][places.size()];
        for (int[] row : apart) {
            Arrays.fill(row, 9999);
        }
        for (int i = 0; i < apart.length; i++) {
            apart[i][i] = 0;
            for (int round = 0; round < 9; round++) {
                for (Map<Character, Integer> way : ways) {
                    int a = way.get('a');
                    int b = way.get('b');
                    int cost = byHours ? way.get('t') : 1;
                    apart[i][a] = Math.min(apart[i][a], apart[i][b] + cost);
                    apart[i][b] = Math.min(apart[i][b], apart[i][a] + cost);
                }
            }
        }
        return apart;
    }

    int hears(int r) {
        if (noLand() || r < 0 || r > 7) {
            return NONE;
        }
        int[][] apart = apart(false);
        int[] knows = new int[now.companies.size()];
        int all = 0;
        for (int i = 0; i < knows.length; i++) {
            knows[i] = now.companies.get(i).knows;
            all |= knows[i];
        }
        for (int round = 0; round < 9; round++) {
            for (int i = 0; i < knows.length; i++) {
                for (int j = 0; j < knows.length; j++) {
                    if (lives(now, i) && lives(now, j)
                            && apart[now.companies.get(i).place][now.companies.get(j).place] <= r) {
                        knows[i] |= knows[j];
                    }
                }
            }
        }
        int found = 0;
        for (int i = 0; i < knows.length; i++) {
            found += lives(now, i) && knows[i] == all ? 1 : 0;
        }
        return found;
    }

    int weakest() {
        int weakest = NONE;
        for (int grains = 99; grains > 0; grains--) {
            for (int i = now.companies.size() - 1; i >= 0; i--) {
                weakest = now.companies.get(i).grains == grains ? i : weakest;
            }
        }
        return weakest;
    }

    int reach(int from, int to) {
        return !isPlace(from) || !isPlace(to) || apart(true)[from][to] >= 9999 ? NONE : apart(true)[from][to];
    }

    int dry(int place) {
        int fewest = 9999;
        for (int i = 0; isPlace(place) && i < places.size(); i++) {
            fewest = places.get(i).get('k') == 1 ? Math.min(fewest, apart(true)[place][i]) : fewest;
        }
        return fewest >= 9999 ? NONE : fewest;
    }

    int image() {
        if (noLand()) {
            return NONE;
        }
        image = now.copy();
        return now.hour;
    }

    int back() {
        if (image == null) {
            return NONE;
        }
        now = image.copy();
        acts.clear();
        return now.hour;
    }

    int count(int what) {
        int living = 0;
        int all = now.river;
        for (Company c : now.companies) {
            living += c.grains > 0 ? 1 : 0;
            all += c.grains;
        }
        for (int grains : now.ground) {
            all += grains;
        }
        int[] counts = {places.size(), ways.size(), now.companies.size(), foes.size(), laws.size(), orders.size(),
            tape.length(), holding, now.hour, living, now.river, now.dug, all, skies.size(), streaks.size(),
            acts.size(), now.log.size()};
        return what < 0 || what >= counts.length ? HIDDEN : counts[what];
    }
}
