import java.util.Arrays;
import java.util.NoSuchElementException;

/**
 * Soldiers of salt: a land, its laws of wear, its orders, its hours and what can be asked of them.
 * The rows that calls work on are made once, with the object, and used again by every call.
 */
public final class SaltArmy {
    public static final int NONE = -1;
    public static final int HIDDEN = -1000000;

    private static final int NO_SORT = -2;
    private static final int MOST_TEXTS = 4;
    private static final int MOST_HOURS_OF_WAR = 48;
    private static final int MOST_NIGHTS = 6;
    private static final int MOST_LOSS = 9;
    private static final int MOST_HOURS_RAINED = 12;
    private static final int THINGS = 4;

    private final Tape tape;
    private Land land;
    private Land draftLand;
    private final Laws laws;
    private final Orders[] orders;
    private int ordersCount;
    private final Camp camp;
    private final Camp apart;
    private final Past past;
    private final Sky sky;
    private final Travel travel;
    private final Traces traces;
    private final Watch watch;

    public SaltArmy() {
        tape = new Tape();
        land = new Land();
        draftLand = new Land();
        laws = new Laws();
        // One more than can be kept: the one behind the last is the draft that a text is read into.
        orders = new Orders[MOST_TEXTS + 1];
        for (int i = 0; i < orders.length; i++) {
            orders[i] = new Orders();
        }
        camp = new Camp();
        apart = new Camp();
        past = new Past();
        sky = new Sky();
        travel = new Travel(laws, sky);
        traces = new Traces();
        watch = new Watch();
    }

    public int feed(int a, int b, int c, int d, int e) {
        int more = Tape.signsOf(a) + Tape.signsOf(b) + Tape.signsOf(c) + Tape.signsOf(d) + Tape.signsOf(e);
        if (tape.size + more > Tape.MOST) {
            return NONE;
        }
        tape.add(a);
        tape.add(b);
        tape.add(c);
        tape.add(d);
        tape.add(e);
        return tape.size;
    }

    public boolean end(int n) {
        if (n < 0 || n > tape.size) {
            return false;
        }
        tape.size = n;
        return true;
    }

    public int fault(int sort) {
        if (sort < 0 || sort > 2) {
            return NO_SORT;
        }
        return readTape(sort) ? NONE : tape.at;
    }

    public int text(int sort) {
        if (sort < 0 || sort > 2 || isFull(sort) || !readTape(sort)) {
            return NONE;
        }
        tape.size = 0;
        if (sort == 0) {
            return settleLand();
        }
        return sort == 1 ? laws.size++ : ordersCount++;
    }

    public int spot(int place, int what) {
        if (!land.hasPlace(place) || what < 0 || what > 5) {
            return NONE;
        }
        if (what == 4) {
            return camp.cells[Camp.GROUND + place];
        }
        return what == 5 ? camp.cells[Camp.LORE + place] : land.cell(Land.PLACES, place, what);
    }

    public int way(int way, int what) {
        if (way < 0 || way >= land.counts[Land.WAYS] || what < 0 || what > 3) {
            return NONE;
        }
        return land.cell(Land.WAYS, way, what);
    }

    public int company(int company, int what) throws NoSuchElementException {
        if (!camp.hasCompany(company) || what < 0 || what > 5) {
            throw new NoSuchElementException();
        }
        return camp.of(company, what);
    }

    public int foe(int foe, int what) {
        if (foe < 0 || foe >= land.counts[Land.FOES] || what < 0 || what > 1) {
            return NONE;
        }
        return what == 0 ? land.cell(Land.FOES, foe, Land.FOE_PLACE) : camp.cells[Camp.BUCKETS + foe];
    }

    public boolean law(int law) {
        if (law < NONE || law >= laws.size) {
            return false;
        }
        laws.holding = law;
        return true;
    }

    public int wear(int company) {
        return camp.lives(company) ? camp.lossByRain(land, laws, company) : NONE;
    }

    public int march(int company, int place) {
        return act(Orders.MARCH, company, place);
    }

    public int join(int one, int other) {
        return act(Orders.JOIN, one, other);
    }

    public int dig(int company) {
        return act(Orders.DIG, company, 0);
    }

    public int cast(int place, int mould) {
        return act(Orders.CAST, place, mould);
    }

    public int hour(int rains) {
        if (rains < 0 || rains > land.allPlaces()) {
            return NONE;
        }
        return act(Orders.HOUR, rains, 0);
    }

    public int war(int n, long seed) {
        if (land.isEmpty() || n < 1 || n > MOST_HOURS_OF_WAR) {
            return NONE;
        }
        long x = seed;
        for (int i = 0; i < n; i++) {
            int rains = 0;
            for (int place = 0; place < land.counts[Land.PLACES]; place++) {
                x = x * 6364136223846793005L + 1442695040888963407L;
                if ((x >>> 33) % 100 < land.cell(Land.PLACES, place, Land.RAIN)) {
                    rains |= 1 << place;
                }
            }
            act(Orders.HOUR, rains, 0);
        }
        return camp.cells[Camp.HOUR];
    }

    public int undo() {
        return past.takeBack(camp);
    }

    public int log(int i, int what) {
        if (i < 0 || i >= camp.logSize() || what < 0 || what > 2) {
            return NONE;
        }
        return camp.logged(i, what);
    }

    public int step(int orders, int i, int what) {
        if (!hasOrders(orders) || i < 0 || i >= this.orders[orders].size || what < 0 || what > 2) {
            return NONE;
        }
        return this.orders[orders].part(i, what);
    }

    public int run(int orders, int what) {
        if (land.isEmpty() || !hasOrders(orders) || what < 0 || what > 1) {
            return HIDDEN;
        }
        Orders told = this.orders[orders];
        apart.copyFrom(camp);
        int done = 0;
        while (done < told.size && obey(apart, told.act(done), told.first(done, land), told.second(done)) != NONE) {
            done++;
        }
        if (what == 1) {
            return apart.livingGrains();
        }
        return done < told.size ? done : NONE;
    }

    public int perform(int orders) {
        if (land.isEmpty() || !hasOrders(orders)) {
            return NONE;
        }
        Orders told = this.orders[orders];
        int done = 0;
        while (done < told.size && act(told.act(done), told.first(done, land), told.second(done)) != NONE) {
            done++;
        }
        return done;
    }

    public int sky(int place, int hour, boolean rains) {
        if (!land.hasPlace(place)) {
            return NONE;
        }
        return sky.tell(place, hour, rains);
    }

    public int best(int company, int to, int sort, int what) {
        if (sort < 0 || sort > 2 || what < 0 || !findsJourney(company, to)) {
            return HIDDEN;
        }
        int row = travel.bestRow(sort);
        switch (what) {
            case 0:
                return travel.meanOf(row);
            case 1:
                return travel.sureOf(row);
            case 2:
                return travel.hoursOf(row);
            default:
                return travel.placeOrHidden(row, what - 3);
        }
    }

    public int journeys(int company, int to) {
        return travel.find(land, camp, company, to) ? travel.found : NONE;
    }

    public int waits(int company, int to, int what) {
        if (what < 0 || what > 1 || !findsJourney(company, to)) {
            return HIDDEN;
        }
        int hours = travel.bestWait(travel.bestRow(Travel.BY_HOURS));
        return what == 0 ? hours : travel.meanOfWait;
    }

    public int ambush(int company, int to, int what) {
        if (what < 0 || !findsJourney(company, to)) {
            return HIDDEN;
        }
        if (what == 1) {
            return travel.worstPlace(travel.bestRow(Travel.BY_MEAN));
        }
        int row = travel.bestRow(Travel.BY_AMBUSH);
        return what == 0 ? travel.leastMeanOf(row) : travel.placeOrHidden(row, what - 2);
    }

    public int pickets(int n, int loss, int bound, int i) {
        if (land.isEmpty() || !areNights(n, loss) || bound < 0 || bound > 99 || i < NONE) {
            return NONE;
        }
        watch.set(camp, loss, bound);
        int rows = watch.rows(n);
        if (i == NONE) {
            return rows;
        }
        return i < rows ? watch.row(n, i) : NONE;
    }

    public int stock(int n, int loss) {
        if (land.isEmpty() || !areNights(n, loss)) {
            return NONE;
        }
        for (int bound = 0; bound < 100; bound++) {
            watch.set(camp, loss, bound);
            if (watch.rows(n) == 0) {
                return bound;
            }
        }
        return 100;
    }

    public int streak(int place, int grains) {
        if (!land.hasPlace(place)) {
            return NONE;
        }
        return traces.tell(place, grains);
    }

    public int rained(int company, int to, int i) {
        if (i < NONE || !findsJourney(company, to)) {
            return NONE;
        }
        int row = travel.bestRow(Travel.BY_HOURS);
        if (travel.hoursOf(row) > MOST_HOURS_RAINED) {
            return NONE;
        }
        traces.weigh(travel, row);
        return i == NONE ? traces.setsThatFit() : traces.setThatFits(i);
    }

    public int knows(int thing) {
        if (land.isEmpty() || thing < 0 || thing >= THINGS) {
            return NONE;
        }
        return camp.whoKnows(thing);
    }

    public int hears(int r) {
        if (land.isEmpty() || r < 0 || r > 7) {
            return NONE;
        }
        return camp.howManyHear(land, r);
    }

    public int weakest() {
        return camp.weakestOne();
    }

    public int reach(int from, int to) {
        if (!land.hasPlace(from) || !land.hasPlace(to)) {
            return NONE;
        }
        return land.hoursBetween(from, to);
    }

    public int dry(int place) {
        return land.hasPlace(place) ? land.hoursToRoof(place) : NONE;
    }

    public int image() {
        if (land.isEmpty()) {
            return NONE;
        }
        past.keepImage(camp);
        return camp.cells[Camp.HOUR];
    }

    public int back() {
        return past.goBack(camp) ? camp.cells[Camp.HOUR] : NONE;
    }

    public int count(int what) {
        switch (what) {
            case 0:
            case 1:
            case 3:
                return land.counts[what];
            case 2:
                return camp.cells[Camp.COMPANIES];
            case 4:
                return laws.size;
            case 5:
                return ordersCount;
            case 6:
                return tape.size;
            case 7:
                return laws.holding;
            case 8:
                return camp.cells[Camp.HOUR];
            case 9:
                return camp.living();
            case 10:
                return camp.cells[Camp.RIVER];
            case 11:
                return camp.cells[Camp.DUG];
            case 12:
                return camp.allGrains();
            case 13:
                return sky.size;
            case 14:
                return traces.size;
            case 15:
                return past.size;
            case 16:
                return camp.logSize();
            default:
                return HIDDEN;
        }
    }

    private boolean isFull(int sort) {
        return sort == 1 && laws.size >= MOST_TEXTS || sort == 2 && ordersCount >= MOST_TEXTS;
    }

    private boolean readTape(int sort) {
        if (sort == 0) {
            return draftLand.readFrom(tape);
        }
        return sort == 1 ? laws.told[laws.size].readFrom(tape) : orders[ordersCount].readFrom(tape);
    }

    private int settleLand() {
        Land old = land;
        land = draftLand;
        draftLand = old;
        land.drawMaps();
        camp.settleIn(land);
        past.forget();
        sky.clear();
        traces.size = 0;
        return camp.cells[Camp.COMPANIES];
    }

    private boolean hasOrders(int number) {
        return number >= 0 && number < ordersCount;
    }

    private boolean findsJourney(int company, int to) {
        return travel.find(land, camp, company, to) && travel.found > 0;
    }

    private static boolean areNights(int n, int loss) {
        return n >= 1 && n <= MOST_NIGHTS && loss >= 1 && loss <= MOST_LOSS;
    }

    private int act(int sort, int a, int b) {
        if (land.isEmpty()) {
            return NONE;
        }
        past.note(camp);
        int answer = obey(camp, sort, a, b);
        if (answer != NONE) {
            past.confirm();
        }
        return answer;
    }

    private int obey(Camp there, int sort, int a, int b) {
        switch (sort) {
            case Orders.MARCH:
                return there.setOut(land, a, b);
            case Orders.JOIN:
                return there.unite(a, b);
            case Orders.DIG:
                return there.mine(land, a);
            case Orders.CAST:
                return there.castAnew(land, a, b);
            default:
                return there.passHour(land, laws, a);
        }
    }

    /** The bytes that are told, and a finger on the one that is read next: behind a text with a fault, on the fault. */
    private static final class Tape {
        static final int MOST = 240;

        final int[] signs = new int[MOST];
        int size;
        int at;

        static int signsOf(int word) {
            int found = 0;
            for (int shift = 24; shift >= 0; shift -= 8) {
                if ((word >>> shift & 255) != 0) {
                    found++;
                }
            }
            return found;
        }

        void add(int word) {
            for (int shift = 24; shift >= 0; shift -= 8) {
                int sign = word >>> shift & 255;
                if (sign != 0 && size < MOST) {
                    signs[size] = sign;
                    size++;
                }
            }
        }

        void rewind() {
            at = 0;
            skipBlanks();
        }

        boolean isEnded() {
            return at >= size;
        }

        /** 0, which no byte of the tape is, behind the end. */
        char sign() {
            return at >= 0 && at < size ? (char) signs[at] : 0;
        }

        void pass() {
            at++;
            skipBlanks();
        }

        boolean take(char sign) {
            if (sign() != sign) {
                return false;
            }
            at++;
            skipBlanks();
            return true;
        }

        int takeDigit() {
            char sign = sign();
            if (!isDigit(sign)) {
                return NONE;
            }
            pass();
            return sign - '0';
        }

        int takeNumber(int digits, int low, int high) {
            int value = 0;
            int read = 0;
            while (read < digits && isDigit(sign())) {
                value = value * 10 + (sign() - '0');
                at++;
                read++;
            }
            if (read == 0 || isDigit(sign())) {
                return NONE;
            }
            if (value < low || value > high) {
                at--;
                return NONE;
            }
            skipBlanks();
            return value;
        }

        static boolean isDigit(char sign) {
            return sign >= '0' && sign <= '9';
        }

        private void skipBlanks() {
            while (at < size && signs[at] == ' ') {
                at++;
            }
        }
    }

    /** What a land is told to be; what changes in it is a camp's. Without places there is none. */
    private static final class Land {
        static final int PLACES = 0;
        static final int WAYS = 1;
        static final int COMPANIES = 2;
        static final int FOES = 3;

        static final int HEIGHT = 0;
        static final int ROOF = 1;
        static final int RAIN = 2;
        static final int SALT = 3;
        static final int WAY_HOURS = 2;
        static final int FORD = 3;
        static final int COMPANY_PLACE = 0;
        static final int FOE_PLACE = 0;
        static final int FOE_BUCKETS = 1;

        private static final int KINDS = 4;
        private static final int ROWS = 12;
        private static final int ITEMS = 5;
        private static final int SIDE = 8;
        private static final int FAR = 1000;
        private static final String KIND_SIGNS = "pwcf";
        private static final int[] MOST = {8, 12, 5, 3};
        private static final int[] ITEM_COUNTS = {4, 4, 5, 2};
        private static final String ITEM_SIGNS = "hkrs abtf pgwmqpb   ";
        private static final int[] LOW = {0, 0, 0, 0, 0, 0, 0, 1, 0, 0, 0, 1, 0, 0, 0, 0, 0, 0, 0, 0};
        private static final int[] HIGH = {9, 1, 99, 9, 0, 7, 7, 9, 9, 0, 7, 99, 9, 3, 15, 7, 9, 0, 0, 0};
        private static final int[] USUAL = {0, 0, 20, 0, 0, 0, 1, 1, 0, 0, 0, 50, 5, 0, 0, 0, 2, 0, 0, 0};

        final int[] counts = new int[KINDS];
        private final int[] cells = new int[KINDS * ROWS * ITEMS];
        private final int[] lowestWays = new int[SIDE * SIDE];
        private final int[] hoursApart = new int[SIDE * SIDE];
        private final int[] waysApart = new int[SIDE * SIDE];

        boolean isEmpty() {
            return counts[PLACES] == 0;
        }

        boolean hasPlace(int place) {
            return place >= 0 && place < counts[PLACES];
        }

        /** The set of all places; none for no land, so that no set is one of its own. */
        int allPlaces() {
            return isEmpty() ? NONE : (1 << counts[PLACES]) - 1;
        }

        int cell(int kind, int row, int item) {
            return cells[(kind * ROWS + row) * ITEMS + item];
        }

        boolean hasRoof(int place) {
            return cell(PLACES, place, ROOF) == 1;
        }

        int lowestWay(int from, int to) {
            return lowestWays[from * SIDE + to];
        }

        int hoursBetween(int from, int to) {
            int hours = hoursApart[from * SIDE + to];
            return hours < FAR ? hours : NONE;
        }

        boolean isWithin(int from, int to, int ways) {
            return waysApart[from * SIDE + to] <= ways;
        }

        int hoursToRoof(int from) {
            int fewest = FAR;
            for (int place = 0; place < counts[PLACES]; place++) {
                if (hasRoof(place)) {
                    fewest = Math.min(fewest, hoursApart[from * SIDE + place]);
                }
            }
            return fewest < FAR ? fewest : NONE;
        }

        boolean readFrom(Tape tape) {
            Arrays.fill(counts, 0);
            tape.rewind();
            for (int clause = 0; clause < Tape.MOST; clause++) {
                if (!readClause(tape)) {
                    return false;
                }
                if (tape.isEnded()) {
                    return isWhole();
                }
                if (!tape.take(';')) {
                    return false;
                }
            }
            return false;
        }

        private boolean readClause(Tape tape) {
            int kind = KIND_SIGNS.indexOf(tape.sign());
            if (kind < 0 || counts[kind] >= MOST[kind]) {
                return false;
            }
            tape.pass();
            int row = (kind * ROWS + counts[kind]) * ITEMS;
            System.arraycopy(USUAL, kind * ITEMS, cells, row, ITEMS);
            counts[kind]++;
            int seen = 0;
            for (int items = 0; items <= ITEMS; items++) {
                int item = itemOf(kind, tape.sign());
                if (item < 0 || (seen >> item & 1) == 1) {
                    return item < 0;
                }
                seen |= 1 << item;
                tape.pass();
                int value = tape.takeNumber(2, LOW[kind * ITEMS + item], HIGH[kind * ITEMS + item]);
                if (value < 0) {
                    return false;
                }
                cells[row + item] = value;
            }
            return false;
        }

        private static int itemOf(int kind, char sign) {
            for (int item = 0; item < ITEM_COUNTS[kind]; item++) {
                if (ITEM_SIGNS.charAt(kind * ITEMS + item) == sign) {
                    return item;
                }
            }
            return NONE;
        }

        private boolean isWhole() {
            if (counts[PLACES] < 2 || counts[COMPANIES] < 1) {
                return false;
            }
            for (int way = 0; way < counts[WAYS]; way++) {
                int one = cell(WAYS, way, 0);
                int other = cell(WAYS, way, 1);
                if (one == other || !hasPlace(one) || !hasPlace(other)) {
                    return false;
                }
            }
            return areAtPlaces(COMPANIES, COMPANY_PLACE) && areAtPlaces(FOES, FOE_PLACE);
        }

        private boolean areAtPlaces(int kind, int item) {
            for (int row = 0; row < counts[kind]; row++) {
                if (!hasPlace(cell(kind, row, item))) {
                    return false;
                }
            }
            return true;
        }

        void drawMaps() {
            Arrays.fill(lowestWays, NONE);
            Arrays.fill(hoursApart, FAR);
            Arrays.fill(waysApart, FAR);
            for (int place = 0; place < SIDE; place++) {
                hoursApart[place * SIDE + place] = 0;
                waysApart[place * SIDE + place] = 0;
            }
            // From the last one down, so that the lowest of several between two stands in the end.
            for (int way = counts[WAYS] - 1; way >= 0; way--) {
                int one = cell(WAYS, way, 0);
                int other = cell(WAYS, way, 1);
                drawWay(way, one * SIDE + other);
                drawWay(way, other * SIDE + one);
            }
            shorten(hoursApart);
            shorten(waysApart);
        }

        private void drawWay(int way, int pair) {
            lowestWays[pair] = way;
            hoursApart[pair] = Math.min(hoursApart[pair], cell(WAYS, way, WAY_HOURS));
            waysApart[pair] = 1;
        }

        private static void shorten(int[] map) {
            for (int by = 0; by < SIDE; by++) {
                for (int from = 0; from < SIDE; from++) {
                    for (int to = 0; to < SIDE; to++) {
                        int round = map[from * SIDE + by] + map[by * SIDE + to];
                        map[from * SIDE + to] = Math.min(map[from * SIDE + to], round);
                    }
                }
            }
        }
    }

    /** The laws that are told, and which of them holds. */
    private static final class Laws {
        private static final int MOST_WEAR = 99;

        // One more than can be kept: the one behind the last is the draft.
        final Law[] told = new Law[MOST_TEXTS + 1];
        private final int[] letters = new int[Law.LETTERS.length()];
        int size;
        int holding = NONE;

        Laws() {
            for (int i = 0; i < told.length; i++) {
                told[i] = new Law();
            }
        }

        /** What one with so many grains loses by rain, no more than it has. */
        int loss(int grains, int wear, int height, int mould, int hour) {
            int worth = wear - height / 3;
            if (holding >= 0 && holding < size) {
                letters[0] = grains;
                letters[1] = wear;
                letters[2] = height;
                letters[3] = mould;
                letters[4] = hour;
                worth = told[holding].worth(letters);
            }
            return Math.max(0, Math.min(Math.min(worth, MOST_WEAR), grains));
        }
    }

    /** A law as it is read: a row of moves on a pile of numbers, each a sort and a value. */
    private static final class Law {
        static final String LETTERS = "gwhmt";

        private static final String COMPARISONS = "=<>";
        private static final int MOST_NESTED = 6;
        private static final int BOUND = 1000000;
        private static final int DIGITS = 4;

        private static final int NUMBER = 0;
        private static final int LETTER = 1;
        private static final int NOT = 2;
        private static final int UNLESS_SKIP = 3;
        private static final int ANSWER = 4;
        private static final int ADD = 5;
        private static final int SUBTRACT = 6;
        private static final int MULTIPLY = 7;
        private static final int DIVIDE = 8;
        private static final int EQUAL = 9;
        private static final int LESS = 10;
        private static final int MORE = 11;
        private static final int BOTH = 12;
        private static final int EITHER = 13;

        private static final int VALUE_SHIFT = 4;
        private static final int SORT_MASK = 15;

        // A byte makes one move at most; the end of the text makes one more.
        private final int[] moves = new int[Tape.MOST + 1];
        // At most five numbers wait ahead of six nested signs, and two more within each of them.
        private final int[] pile = new int[32];
        private int size;

        boolean readFrom(Tape tape) {
            size = 0;
            tape.rewind();
            for (int clause = 0; clause < Tape.MOST; clause++) {
                if (!readClause(tape)) {
                    return false;
                }
                if (tape.isEnded()) {
                    return true;
                }
                if (!tape.take(';')) {
                    return false;
                }
            }
            return false;
        }

        private boolean readClause(Tape tape) {
            if (!tape.take('y') || !tape.take(':')) {
                return false;
            }
            boolean hasSum = tape.sign() != '!' && tape.sign() != '(';
            if (hasSum) {
                if (!readSum(tape, 0)) {
                    return false;
                }
                if (COMPARISONS.indexOf(tape.sign()) < 0) {
                    add(ANSWER, 0);
                    return true;
                }
            }
            if (!readCondition(tape, 0, hasSum) || !tape.take('?')) {
                return false;
            }
            int skip = size;
            add(UNLESS_SKIP, 0);
            if (!readSum(tape, 0)) {
                return false;
            }
            add(ANSWER, 0);
            if (skip < moves.length) {
                moves[skip] = size << VALUE_SHIFT | UNLESS_SKIP;
            }
            return true;
        }

        /** With hasSum the first sum of the condition is read already. */
        private boolean readCondition(Tape tape, int nested, boolean hasSum) {
            if (!readTruth(tape, nested, hasSum)) {
                return false;
            }
            for (int more = 0; more < Tape.MOST && tape.take('|'); more++) {
                if (!readTruth(tape, nested, false)) {
                    return false;
                }
                add(EITHER, 0);
            }
            return true;
        }

        private boolean readTruth(Tape tape, int nested, boolean hasSum) {
            if (!readUnit(tape, nested, hasSum)) {
                return false;
            }
            for (int more = 0; more < Tape.MOST && tape.take('&'); more++) {
                if (!readUnit(tape, nested, false)) {
                    return false;
                }
                add(BOTH, 0);
            }
            return true;
        }

        private boolean readUnit(Tape tape, int nested, boolean hasSum) {
            char sign = tape.sign();
            if (!hasSum && (sign == '!' || sign == '(')) {
                if (nested >= MOST_NESTED) {
                    return false;
                }
                tape.pass();
                if (sign == '(') {
                    return readCondition(tape, nested + 1, false) && tape.take(')');
                }
                boolean isRead = readUnit(tape, nested + 1, false);
                add(NOT, 0);
                return isRead;
            }
            if (!hasSum && !readSum(tape, nested)) {
                return false;
            }
            int comparison = COMPARISONS.indexOf(tape.sign());
            if (comparison < 0) {
                return false;
            }
            tape.pass();
            boolean isRead = readSum(tape, nested);
            add(EQUAL + comparison, 0);
            return isRead;
        }

        private boolean readSum(Tape tape, int nested) {
            if (!readTerm(tape, nested)) {
                return false;
            }
            for (int more = 0; more < Tape.MOST; more++) {
                boolean adds = tape.sign() == '+';
                if (!adds && tape.sign() != '-') {
                    return true;
                }
                tape.pass();
                if (!readTerm(tape, nested)) {
                    return false;
                }
                add(adds ? ADD : SUBTRACT, 0);
            }
            return true;
        }

        private boolean readTerm(Tape tape, int nested) {
            if (!readAtom(tape, nested)) {
                return false;
            }
            for (int more = 0; more < Tape.MOST; more++) {
                boolean multiplies = tape.sign() == '*';
                if (!multiplies && tape.sign() != '/') {
                    return true;
                }
                tape.pass();
                if (!readAtom(tape, nested)) {
                    return false;
                }
                add(multiplies ? MULTIPLY : DIVIDE, 0);
            }
            return true;
        }

        private boolean readAtom(Tape tape, int nested) {
            if (tape.sign() == '[') {
                if (nested >= MOST_NESTED) {
                    return false;
                }
                tape.pass();
                return readSum(tape, nested + 1) && tape.take(']');
            }
            int letter = LETTERS.indexOf(tape.sign());
            if (letter >= 0) {
                tape.pass();
                add(LETTER, letter);
                return true;
            }
            int number = tape.takeNumber(DIGITS, 0, BOUND);
            add(NUMBER, Math.max(0, number));
            return number >= 0;
        }

        private void add(int sort, int value) {
            if (size < moves.length) {
                moves[size] = value << VALUE_SHIFT | sort;
                size++;
            }
        }

        int worth(int[] letters) {
            int top = 0;
            for (int i = 0; i < size; i++) {
                int sort = moves[i] & SORT_MASK;
                int value = moves[i] >> VALUE_SHIFT;
                // What was read never asks for more of the pile than there is.
                if (top >= pile.length || top < (sort >= ADD ? 2 : sort >= NOT ? 1 : 0)) {
                    return 0;
                }
                long a = top > 1 ? pile[top - 2] : 0;
                long b = top > 0 ? pile[top - 1] : 0;
                long made = 0;
                switch (sort) {
                    case NUMBER:
                        made = value;
                        break;
                    case LETTER:
                        made = value >= 0 && value < letters.length ? letters[value] : 0;
                        break;
                    case NOT:
                        made = 1 - b;
                        break;
                    case UNLESS_SKIP:
                        i = b == 0 && value > i ? value - 1 : i;
                        break;
                    case ANSWER:
                        return (int) b;
                    case ADD:
                        made = a + b;
                        break;
                    case SUBTRACT:
                        made = a - b;
                        break;
                    case MULTIPLY:
                        made = a * b;
                        break;
                    case DIVIDE:
                        made = b == 0 ? 0 : a / b;
                        break;
                    case BOTH:
                        made = a & b;
                        break;
                    case EITHER:
                        made = a | b;
                        break;
                    default:
                        made = sort == (a < b ? LESS : a > b ? MORE : EQUAL) ? 1 : 0;
                        break;
                }
                top += sort <= LETTER ? 1 : sort == NOT ? 0 : -1;
                // A condition leaves the pile empty.
                if (top > 0) {
                    pile[top - 1] = (int) (made > BOUND ? BOUND : made < -BOUND ? -BOUND : made);
                }
            }
            return 0;
        }
    }

    /** Orders as they are read: steps of a sort and two digits. */
    private static final class Orders {
        static final int MARCH = 0;
        static final int JOIN = 1;
        static final int DIG = 2;
        static final int CAST = 3;
        static final int HOUR = 4;

        private static final int WET_HOUR = 5;
        private static final int MOST = 16;
        private static final int PARTS = 3;
        private static final String SORTS = "mjdsrw";
        private static final int[] DIGITS = {2, 2, 1, 1, 0, 0};

        private final int[] steps = new int[MOST * PARTS];
        int size;

        boolean readFrom(Tape tape) {
            size = 0;
            tape.rewind();
            while (size < MOST) {
                if (!readStep(tape)) {
                    return false;
                }
                size++;
                if (tape.isEnded()) {
                    return true;
                }
                if (size == MOST || !tape.take(';')) {
                    return false;
                }
            }
            return false;
        }

        private boolean readStep(Tape tape) {
            int sort = SORTS.indexOf(tape.sign());
            if (sort < 0) {
                return false;
            }
            tape.pass();
            int from = size * PARTS;
            steps[from] = sort;
            for (int digit = 1; digit < PARTS; digit++) {
                steps[from + digit] = NONE;
                if (digit <= DIGITS[sort]) {
                    steps[from + digit] = tape.takeDigit();
                    if (steps[from + digit] < 0) {
                        return false;
                    }
                }
            }
            return true;
        }

        int part(int i, int what) {
            return steps[i * PARTS + what];
        }

        int act(int i) {
            return Math.min(part(i, 0), HOUR);
        }

        /** The company or place of an act, or the places where it rains. */
        int first(int i, Land land) {
            if (act(i) != HOUR) {
                return part(i, 1);
            }
            return part(i, 0) == WET_HOUR ? land.allPlaces() : 0;
        }

        /** What is cast by a step has the mould 0. */
        int second(int i) {
            return Math.max(0, part(i, 2));
        }
    }

    /** All that changes in a land by acts, in one row, so that it can be kept and put back whole. */
    private static final class Camp {
        static final int GROUND = 0;
        static final int LORE = 8;
        static final int BUCKETS = 16;
        static final int RIVER = 19;
        static final int DUG = 20;
        static final int HOUR = 21;
        static final int COMPANIES = 22;
        private static final int FIRST_COMPANY = 23;
        private static final int PARTS = 7;
        private static final int MOST_COMPANIES = 8;
        private static final int FIRST_LOG = FIRST_COMPANY + PARTS * MOST_COMPANIES;
        private static final int LOG_PARTS = 3;
        private static final int MOST_LOGGED = 60;
        private static final int CELLS = FIRST_LOG + LOG_PARTS * MOST_LOGGED;

        static final int PLACE = 0;
        static final int LEFT = 1;
        static final int GRAINS = 2;
        static final int WEAR = 3;
        static final int MOULD = 4;
        static final int KNOWN = 5;
        private static final int VIA = 6;

        private static final int MOST_GRAINS = 99;
        private static final int MOST_MOULD = 3;
        private static final int CAST_WEAR = 5;
        private static final int BUCKET = 5;
        private static final int DEW_EACH = 6;

        final int[] cells = new int[CELLS];
        private int lostNow;
        private int goneNow;

        void copyFrom(Camp other) {
            System.arraycopy(other.cells, 0, cells, 0, CELLS);
        }

        void settleIn(Land land) {
            Arrays.fill(cells, 0);
            cells[COMPANIES] = land.counts[Land.COMPANIES];
            for (int i = 0; i < cells[COMPANIES]; i++) {
                set(i, PLACE, land.cell(Land.COMPANIES, i, 0));
                for (int item = 1; item < 5; item++) {
                    set(i, item + 1, land.cell(Land.COMPANIES, i, item));
                }
            }
            for (int i = 0; i < land.counts[Land.FOES]; i++) {
                cells[BUCKETS + i] = land.cell(Land.FOES, i, Land.FOE_BUCKETS);
            }
        }

        int of(int company, int part) {
            return cells[FIRST_COMPANY + company * PARTS + part];
        }

        private void set(int company, int part, int value) {
            cells[FIRST_COMPANY + company * PARTS + part] = value;
        }

        boolean hasCompany(int company) {
            return company >= 0 && company < cells[COMPANIES];
        }

        boolean lives(int company) {
            return hasCompany(company) && of(company, GRAINS) > 0;
        }

        boolean isAtPlace(int company) {
            return hasCompany(company) && of(company, GRAINS) > 0 && of(company, LEFT) == 0;
        }

        int lossByRain(Land land, Laws laws, int company) {
            int height = land.cell(Land.PLACES, of(company, PLACE), Land.HEIGHT);
            return laws.loss(of(company, GRAINS), of(company, WEAR), height, of(company, MOULD), cells[HOUR]);
        }

        int setOut(Land land, int company, int place) {
            if (!isAtPlace(company) || !land.hasPlace(place)) {
                return NONE;
            }
            int way = land.lowestWay(of(company, PLACE), place);
            if (way < 0) {
                return NONE;
            }
            int hours = land.cell(Land.WAYS, way, Land.WAY_HOURS);
            set(company, PLACE, place);
            set(company, LEFT, hours);
            set(company, VIA, way);
            return hours;
        }

        int unite(int one, int other) {
            if (one == other || !isAtPlace(one) || !isAtPlace(other) || of(one, PLACE) != of(other, PLACE)) {
                return NONE;
            }
            int together = of(one, GRAINS) + of(other, GRAINS);
            int kept = Math.min(MOST_GRAINS, together);
            set(one, GRAINS, kept);
            set(one, KNOWN, of(one, KNOWN) | of(other, KNOWN));
            cells[GROUND + of(one, PLACE)] += together - kept;
            set(other, GRAINS, 0);
            set(other, KNOWN, 0);
            return kept;
        }

        int mine(Land land, int company) {
            if (!isAtPlace(company)) {
                return NONE;
            }
            int grains = of(company, GRAINS);
            int more = Math.min(land.cell(Land.PLACES, of(company, PLACE), Land.SALT), MOST_GRAINS - grains);
            if (more <= 0) {
                return NONE;
            }
            set(company, GRAINS, grains + more);
            cells[DUG] += more;
            return grains + more;
        }

        int castAnew(Land land, int place, int mould) {
            int next = cells[COMPANIES];
            if (!land.hasPlace(place) || mould < 0 || mould > MOST_MOULD || next >= MOST_COMPANIES
                    || cells[GROUND + place] == 0) {
                return NONE;
            }
            int grains = Math.min(MOST_GRAINS, cells[GROUND + place]);
            cells[COMPANIES] = next + 1;
            set(next, PLACE, place);
            set(next, LEFT, 0);
            set(next, GRAINS, grains);
            set(next, WEAR, CAST_WEAR);
            set(next, MOULD, mould);
            set(next, KNOWN, cells[LORE + place]);
            cells[GROUND + place] -= grains;
            cells[LORE + place] = 0;
            return next;
        }

        int passHour(Land land, Laws laws, int rains) {
            lostNow = 0;
            goneNow = 0;
            letRain(land, laws, rains);
            letWalk(land);
            throwBuckets(land);
            if ((cells[HOUR] + 1) % DEW_EACH == 0) {
                letDewFall(land);
            }
            int entry = FIRST_LOG + cells[HOUR] % MOST_LOGGED * LOG_PARTS;
            cells[entry] = rains;
            cells[entry + 1] = lostNow;
            cells[entry + 2] = goneNow;
            cells[HOUR]++;
            return cells[HOUR];
        }

        private void letRain(Land land, Laws laws, int rains) {
            for (int i = 0; i < cells[COMPANIES]; i++) {
                if (lives(i) && (rains >> of(i, PLACE) & 1) == 1 && !isUnderRoof(land, i)) {
                    lose(i, lossByRain(land, laws, i), of(i, PLACE));
                }
            }
        }

        private void letWalk(Land land) {
            for (int i = 0; i < cells[COMPANIES]; i++) {
                if (lives(i) && of(i, LEFT) > 0) {
                    set(i, LEFT, of(i, LEFT) - 1);
                    if (of(i, LEFT) == 0) {
                        lose(i, land.cell(Land.WAYS, of(i, VIA), Land.FORD), NONE);
                    }
                }
            }
        }

        private void throwBuckets(Land land) {
            for (int foe = 0; foe < land.counts[Land.FOES]; foe++) {
                int place = land.cell(Land.FOES, foe, Land.FOE_PLACE);
                int struck = cells[BUCKETS + foe] > 0 ? lowestAt(place) : NONE;
                if (struck >= 0) {
                    cells[BUCKETS + foe]--;
                    lose(struck, BUCKET, place);
                }
            }
        }

        private int lowestAt(int place) {
            for (int i = 0; i < cells[COMPANIES]; i++) {
                if (isAtPlace(i) && of(i, PLACE) == place) {
                    return i;
                }
            }
            return NONE;
        }

        private void letDewFall(Land land) {
            for (int i = 0; i < cells[COMPANIES]; i++) {
                if (lives(i) && !isUnderRoof(land, i)) {
                    lose(i, 1, of(i, PLACE));
                }
            }
        }

        private boolean isUnderRoof(Land land, int company) {
            return of(company, LEFT) == 0 && land.hasRoof(of(company, PLACE));
        }

        /** On the ground of a place, or with NONE to the river, which keeps no memories. */
        private void lose(int company, int grains, int place) {
            int lost = Math.min(grains, of(company, GRAINS));
            set(company, GRAINS, of(company, GRAINS) - lost);
            cells[place < 0 ? RIVER : GROUND + place] += lost;
            lostNow += lost;
            if (of(company, GRAINS) == 0) {
                goneNow++;
                if (place >= 0) {
                    cells[LORE + place] |= of(company, KNOWN);
                }
                set(company, KNOWN, 0);
            }
        }

        int logSize() {
            return Math.min(cells[HOUR], MOST_LOGGED);
        }

        int logged(int i, int what) {
            return cells[FIRST_LOG + (cells[HOUR] - 1 - i) % MOST_LOGGED * LOG_PARTS + what];
        }

        int living() {
            int found = 0;
            for (int i = 0; i < cells[COMPANIES]; i++) {
                if (lives(i)) {
                    found++;
                }
            }
            return found;
        }

        int livingGrains() {
            int grains = 0;
            for (int i = 0; i < cells[COMPANIES]; i++) {
                grains += of(i, GRAINS);
            }
            return grains;
        }

        int allGrains() {
            int grains = livingGrains() + cells[RIVER];
            for (int place = GROUND; place < LORE; place++) {
                grains += cells[place];
            }
            return grains;
        }

        int weakestOne() {
            int weakest = NONE;
            for (int i = 0; i < cells[COMPANIES]; i++) {
                if (lives(i) && (weakest < 0 || of(i, GRAINS) < of(weakest, GRAINS))) {
                    weakest = i;
                }
            }
            return weakest;
        }

        int whoKnows(int thing) {
            int set = 0;
            for (int i = 0; i < cells[COMPANIES]; i++) {
                if (lives(i) && (of(i, KNOWN) >> thing & 1) == 1) {
                    set |= 1 << i;
                }
            }
            return set;
        }

        int howManyHear(Land land, int ways) {
            int all = knownBy((1 << cells[COMPANIES]) - 1);
            int found = 0;
            for (int i = 0; i < cells[COMPANIES]; i++) {
                if (lives(i) && knownBy(talkingWith(land, ways, i)) == all) {
                    found++;
                }
            }
            return found;
        }

        private int knownBy(int set) {
            int known = 0;
            for (int i = 0; i < cells[COMPANIES]; i++) {
                if ((set >> i & 1) == 1 && lives(i)) {
                    known |= of(i, KNOWN);
                }
            }
            return known;
        }

        /** Those whose words come to one in the end: each round adds who hears one that is in. */
        private int talkingWith(Land land, int ways, int company) {
            int set = 1 << company;
            for (int round = 0; round < MOST_COMPANIES; round++) {
                for (int i = 0; i < cells[COMPANIES]; i++) {
                    if (lives(i) && isNearOne(land, ways, i, set)) {
                        set |= 1 << i;
                    }
                }
            }
            return set;
        }

        private boolean isNearOne(Land land, int ways, int company, int set) {
            for (int i = 0; i < cells[COMPANIES]; i++) {
                if ((set >> i & 1) == 1 && land.isWithin(of(company, PLACE), of(i, PLACE), ways)) {
                    return true;
                }
            }
            return false;
        }
    }

    /** The camps ahead of the latest acts, and the image. */
    private static final class Past {
        private static final int MOST = 40;
        // One more than can be undone, so that a camp is noted without losing the oldest one.
        private static final int SLOTS = MOST + 1;

        private final Camp[] kept = new Camp[SLOTS];
        private final Camp image = new Camp();
        private boolean hasImage;
        private int next;
        int size;

        Past() {
            for (int i = 0; i < SLOTS; i++) {
                kept[i] = new Camp();
            }
        }

        void forget() {
            size = 0;
            hasImage = false;
        }

        /** Ahead of an act, which is only confirmed when it could be. */
        void note(Camp camp) {
            kept[next].copyFrom(camp);
        }

        void confirm() {
            next = (next + 1) % SLOTS;
            size = Math.min(MOST, size + 1);
        }

        int takeBack(Camp camp) {
            if (size == 0) {
                return NONE;
            }
            next = (next + SLOTS - 1) % SLOTS;
            size--;
            camp.copyFrom(kept[next]);
            return size;
        }

        void keepImage(Camp camp) {
            image.copyFrom(camp);
            hasImage = true;
        }

        boolean goBack(Camp camp) {
            if (hasImage) {
                camp.copyFrom(image);
                size = 0;
            }
            return hasImage;
        }
    }

    /** What is told of hours to come, counted from when it is asked. */
    private static final class Sky {
        private static final int MOST = 16;
        private static final int MOST_HOUR = 24;
        private static final int PLACES = 8;

        private final int[] chances = new int[PLACES * (MOST_HOUR + 1)];
        int size;

        Sky() {
            Arrays.fill(chances, NONE);
        }

        void clear() {
            Arrays.fill(chances, NONE);
            size = 0;
        }

        int tell(int place, int hour, boolean rains) {
            if (hour < 1 || hour > MOST_HOUR || size >= MOST) {
                return NONE;
            }
            chances[place * (MOST_HOUR + 1) + hour] = rains ? 100 : 0;
            size++;
            return size;
        }

        int chance(Land land, int place, int hour) {
            int told = hour <= MOST_HOUR ? chances[place * (MOST_HOUR + 1) + hour] : NONE;
            return told < 0 ? land.cell(Land.PLACES, place, Land.RAIN) : told;
        }
    }

    /** The journeys of one company to one place, in their order, and what comes of them by chances. */
    private static final class Travel {
        static final int BY_MEAN = 0;
        static final int BY_SURE = 1;
        static final int BY_HOURS = 2;
        static final int BY_AMBUSH = 3;

        private static final int MOST_ROWS = 200;
        private static final int SIDE = 8;
        private static final int GRAINS = 100;
        private static final long WHOLE = 1000000000L;
        private static final long MEAN_UNIT = 1000000L;
        private static final int MOST_WAIT = 12;
        private static final int POURED = 10;

        private final Laws laws;
        private final Sky sky;
        Land land;
        int found;
        int meanOfWait;
        int grains;
        private int wear;
        private int mould;
        private int now;
        private int end;
        private final int[] rows = new int[MOST_ROWS * SIDE];
        private final int[] sizes = new int[MOST_ROWS];
        private final int[] trail = new int[SIDE];
        // Of the row that was walked last: parts by grains at each of its places, and the hours until there.
        private final long[][] parts = new long[SIDE][GRAINS];
        private final int[] hours = new int[SIDE];
        private int walked;
        private final long[] aside = new long[GRAINS];

        Travel(Laws laws, Sky sky) {
            this.laws = laws;
            this.sky = sky;
        }

        /** False without such a company at a place, without such another place. */
        boolean find(Land land, Camp camp, int company, int to) {
            found = 0;
            if (!camp.isAtPlace(company) || !land.hasPlace(to) || camp.of(company, Camp.PLACE) == to) {
                return false;
            }
            this.land = land;
            grains = camp.of(company, Camp.GRAINS);
            wear = camp.of(company, Camp.WEAR);
            mould = camp.of(company, Camp.MOULD);
            now = camp.cells[Camp.HOUR];
            end = to;
            trail[0] = camp.of(company, Camp.PLACE);
            findFrom(1, 1 << trail[0]);
            setOutWith(0);
            putAll(parts[0]);
            return true;
        }

        private void findFrom(int size, int seen) {
            int here = trail[size - 1];
            if (here == end) {
                System.arraycopy(trail, 0, rows, found * SIDE, size);
                sizes[found] = size;
                found++;
                return;
            }
            for (int place = 0; place < land.counts[Land.PLACES] && size < SIDE && found < MOST_ROWS; place++) {
                if ((seen >> place & 1) == 0 && land.lowestWay(here, place) >= 0) {
                    trail[size] = place;
                    findFrom(size + 1, seen | 1 << place);
                }
            }
        }

        private void setOutWith(int waited) {
            hours[0] = waited;
            walked = NONE;
        }

        private void putAll(long[] row) {
            Arrays.fill(row, 0L);
            row[grains] = WHOLE;
        }

        int placeOf(int row, int i) {
            return rows[row * SIDE + i];
        }

        int placesOf(int row) {
            return sizes[row];
        }

        int placeOrHidden(int row, int i) {
            return i >= 0 && i < sizes[row] ? placeOf(row, i) : HIDDEN;
        }

        int wayTo(int row, int i) {
            return land.lowestWay(placeOf(row, i - 1), placeOf(row, i));
        }

        int hoursOf(int row) {
            int together = 0;
            for (int i = 1; i < sizes[row]; i++) {
                together += land.cell(Land.WAYS, wayTo(row, i), Land.WAY_HOURS);
            }
            return together;
        }

        int bestRow(int sort) {
            int best = 0;
            int most = 0;
            for (int row = 0; row < found; row++) {
                int value = sort == BY_HOURS ? -hoursOf(row)
                        : sort == BY_SURE ? sureOf(row)
                        : sort == BY_MEAN ? meanOf(row) : leastMeanOf(row);
                if (row == 0 || value > most) {
                    best = row;
                    most = value;
                }
            }
            return best;
        }

        int meanOf(int row) {
            walk(row);
            return mean(parts[sizes[row] - 1]);
        }

        int sureOf(int row) {
            walk(row);
            long[] last = parts[sizes[row] - 1];
            return (int) (WHOLE - last[0]);
        }

        private static int mean(long[] row) {
            long together = 0;
            for (int grains = 1; grains < GRAINS; grains++) {
                together += row[grains] * grains;
            }
            return (int) (together / MEAN_UNIT);
        }

        /** What the row has in common with the one that was walked last stands already. */
        private void walk(int row) {
            int from = walked < 0 ? 1 : commonPlaces(walked, row);
            for (int i = from; i < sizes[row]; i++) {
                System.arraycopy(parts[i - 1], 0, parts[i], 0, GRAINS);
                hours[i] = walkWay(parts[i], row, i, hours[i - 1]);
            }
            walked = row;
        }

        private int commonPlaces(int one, int other) {
            int most = Math.min(sizes[one], sizes[other]);
            int common = 1;
            while (common < most && placeOf(one, common) == placeOf(other, common)) {
                common++;
            }
            return common;
        }

        /** To the i-th place of the row, from so many hours on; the hours then. */
        private int walkWay(long[] row, int journey, int i, int from) {
            int way = wayTo(journey, i);
            int until = from + land.cell(Land.WAYS, way, Land.WAY_HOURS);
            for (int hour = from; hour < until; hour++) {
                letRain(row, placeOf(journey, i), hour);
            }
            pour(row, land.cell(Land.WAYS, way, Land.FORD));
            return until;
        }

        private void letRain(long[] row, int place, int hour) {
            long chance = sky.chance(land, place, hour + 1);
            int height = land.cell(Land.PLACES, place, Land.HEIGHT);
            for (int grains = 1; grains < GRAINS; grains++) {
                long wet = row[grains] * chance / 100;
                if (wet > 0) {
                    int lost = laws.loss(grains, wear, height, mould, now + hour);
                    row[grains] -= wet;
                    row[grains - lost] += wet;
                }
            }
        }

        int lossAt(int grains, int place, int hour) {
            return laws.loss(grains, wear, land.cell(Land.PLACES, place, Land.HEIGHT), mould, now + hour);
        }

        private static void pour(long[] row, int amount) {
            for (int grains = 1; grains < GRAINS && amount > 0; grains++) {
                long poured = row[grains];
                row[grains] = 0;
                row[Math.max(0, grains - amount)] += poured;
            }
        }

        private int meanAmbushedAt(int row, int i) {
            System.arraycopy(parts[i], 0, aside, 0, GRAINS);
            pour(aside, POURED);
            int hour = hours[i];
            for (int next = i + 1; next < sizes[row]; next++) {
                hour = walkWay(aside, row, next, hour);
            }
            return mean(aside);
        }

        int leastMeanOf(int row) {
            walk(row);
            int least = mean(parts[sizes[row] - 1]);
            for (int i = 1; i < sizes[row]; i++) {
                least = Math.min(least, meanAmbushedAt(row, i));
            }
            return least;
        }

        int worstPlace(int row) {
            int least = meanOf(row);
            int worst = NONE;
            for (int i = 1; i < sizes[row]; i++) {
                int mean = meanAmbushedAt(row, i);
                int place = placeOf(row, i);
                if (mean < least || mean == least && place < worst) {
                    least = mean;
                    worst = place;
                }
            }
            return worst;
        }

        /** Leaves the mean of the best wait in meanOfWait. */
        int bestWait(int row) {
            int best = 0;
            putAll(aside);
            for (int waited = 0; waited <= MOST_WAIT; waited++) {
                setOutWith(waited);
                System.arraycopy(aside, 0, parts[0], 0, GRAINS);
                int mean = meanOf(row);
                if (waited == 0 || mean > meanOfWait) {
                    best = waited;
                    meanOfWait = mean;
                }
                if (!land.hasRoof(trail[0])) {
                    letRain(aside, trail[0], waited);
                }
            }
            return best;
        }
    }

    /** White streaks, and the sets of hours of rain that made them. */
    private static final class Traces {
        private static final int MOST = 8;
        private static final int MOST_GRAINS = 99;
        private static final int MOST_SETS = 1 << MOST_HOURS_RAINED;

        private final int[] places = new int[MOST];
        private final int[] found = new int[MOST];
        int size;
        // By sets of the hours that have gone by: the grains left (below 0: it fits no more), those lost on this way.
        private final int[] left = new int[MOST_SETS];
        private final int[] lost = new int[MOST_SETS];
        private int sets;

        int tell(int place, int grains) {
            if (grains < 0 || grains > MOST_GRAINS || size >= MOST) {
                return NONE;
            }
            places[size] = place;
            found[size] = grains;
            size++;
            return size;
        }

        void weigh(Travel travel, int row) {
            sets = 1;
            left[0] = isClearBeside(travel, row) ? travel.grains : NONE;
            lost[0] = 0;
            int hour = 0;
            for (int i = 1; i < travel.placesOf(row); i++) {
                int place = travel.placeOf(row, i);
                int way = travel.wayTo(row, i);
                int until = hour + travel.land.cell(Land.WAYS, way, Land.WAY_HOURS);
                while (hour < until && sets < MOST_SETS) {
                    addHour(travel, place, hour);
                    hour++;
                }
                compare(place, travel.land.cell(Land.WAYS, way, Land.FORD));
            }
        }

        /** Where it did not come to it lost nothing. */
        private boolean isClearBeside(Travel travel, int row) {
            int seen = 0;
            for (int i = 1; i < travel.placesOf(row); i++) {
                seen |= 1 << travel.placeOf(row, i);
            }
            for (int i = 0; i < size; i++) {
                if ((seen >> places[i] & 1) == 0 && found[i] != 0) {
                    return false;
                }
            }
            return true;
        }

        private void addHour(Travel travel, int place, int hour) {
            for (int set = 0; set < sets; set++) {
                int loss = left[set] > 0 ? travel.lossAt(left[set], place, hour) : 0;
                left[sets + set] = left[set] - loss;
                lost[sets + set] = lost[set] + loss;
            }
            sets *= 2;
        }

        private void compare(int place, int ford) {
            for (int set = 0; set < sets; set++) {
                boolean fits = left[set] >= 0;
                for (int i = 0; i < size && fits; i++) {
                    fits = places[i] != place || found[i] == lost[set];
                }
                left[set] = fits ? Math.max(0, left[set] - ford) : NONE;
                lost[set] = 0;
            }
        }

        int setsThatFit() {
            int fitting = 0;
            for (int set = 0; set < sets; set++) {
                if (left[set] >= 0) {
                    fitting++;
                }
            }
            return fitting;
        }

        int setThatFits(int i) {
            int ahead = i;
            for (int set = 0; set < sets; set++) {
                if (left[set] >= 0) {
                    if (ahead == 0) {
                        return set;
                    }
                    ahead--;
                }
            }
            return NONE;
        }
    }

    /** Rows of pickets. As grains only go down, a company can stand so many nights, whichever these are. */
    private static final class Watch {
        private static final int COMPANIES = 8;
        private static final int SIDE = MOST_NIGHTS + 1;
        private static final int[] CHOICES = {
            1, 0, 0, 0, 0, 0, 0,
            1, 1, 0, 0, 0, 0, 0,
            1, 2, 1, 0, 0, 0, 0,
            1, 3, 3, 1, 0, 0, 0,
            1, 4, 6, 4, 1, 0, 0,
            1, 5, 10, 10, 5, 1, 0,
            1, 6, 15, 20, 15, 6, 1,
        };

        private final int[] nights = new int[COMPANIES];
        private final int[] ways = new int[SIDE];

        void set(Camp camp, int loss, int bound) {
            Arrays.fill(nights, 0);
            boolean holds = true;
            for (int i = 0; i < COMPANIES; i++) {
                if (camp.lives(i)) {
                    holds = holds && camp.of(i, Camp.GRAINS) >= bound;
                    nights[i] = Math.max(0, camp.of(i, Camp.GRAINS) - bound) / Math.max(1, loss);
                }
            }
            if (!holds) {
                Arrays.fill(nights, 0);
            }
        }

        /** How many rows of so many nights: company by company, the nights that are its own chosen among the others. */
        int rows(int n) {
            Arrays.fill(ways, 0);
            ways[0] = 1;
            for (int i = 0; i < COMPANIES; i++) {
                for (int taken = Math.min(n, MOST_NIGHTS); taken >= 0; taken--) {
                    int sum = 0;
                    for (int own = 0; own <= taken && own <= nights[i]; own++) {
                        sum += CHOICES[taken * SIDE + own] * ways[taken - own];
                    }
                    ways[taken] = sum;
                }
            }
            return n >= 0 && n <= MOST_NIGHTS ? ways[n] : 0;
        }

        /** The i-th row; i is below their number. */
        int row(int n, int i) {
            int row = 0;
            int ahead = i;
            for (int night = n - 1; night >= 0; night--) {
                int one = 0;
                int rows = rowsBehind(one, night);
                while (one < COMPANIES - 1 && ahead >= rows) {
                    ahead -= rows;
                    one++;
                    rows = rowsBehind(one, night);
                }
                nights[one]--;
                row = row * 10 + one;
            }
            return row;
        }

        private int rowsBehind(int one, int night) {
            if (nights[one] == 0) {
                return 0;
            }
            nights[one]--;
            int rows = rows(night);
            nights[one]++;
            return rows;
        }
    }
}
