import java.util.Arrays;

/** A village where boxes are nailed and not opened till June; ../shared/DOC.md tells its promises. */
public final class NailedBoxes {
    public static final int NONE = -1;

    private static final int MOST_BYTES = 900;
    private static final int MOST_STATEMENTS = 50;
    private static final int MOST_THINGS = 8;
    private static final int MOST_PEOPLE = 12;
    private static final int MOST_PAIRS = 6;
    private static final int MOST_BOXES = 40;
    private static final int MOST_RECORDS = 300;
    private static final int MOST_LOANS = 20;
    private static final int MOST_BOOK_ROWS = 40;
    private static final int MOST_IMAGES = 3;
    private static final int MOST_COINS = 999;
    private static final int MOST_PRICE = 9999;
    private static final int MOST_TO_BUY = 20;
    private static final int MOST_YEARS = 1000;
    private static final int MOST_SEED = 999999999;
    private static final int JUNE = 5;
    private static final int LAWS = 4;
    private static final int SEALED = 0;
    private static final int BY_NAME = 1;
    private static final int BY_SOUND = 2;
    private static final long MILLION = 1000000L;
    private static final long CERTAIN = 100000000000000L;
    private static final long DRAW_TIMES = 6364136223846793005L;
    private static final long DRAW_PLUS = 1442695040888963407L;

    private static final int NOT_AS_TOLD = 0;
    private static final int NO_ROOM = 1;
    private static final int A_FAULT = 2;
    private static final int REASONS = 3;

    private static final int NOT_A_TEXT = -2;

    private static final int FAIR = 0;
    private static final int NAME = 1;
    private static final int LEMON = 2;
    private static final int BEST = 3;
    private static final int SWORN = 5;

    private static final int SOLD = 0;
    private static final int SAID = 1;
    private static final int WEIGHT_READ = 2;
    private static final int SOUND_READ = 3;

    private final byte[] tape = new byte[MOST_BYTES];
    private int tapeLength = 0;
    private final Reader reader = new Reader();
    private Village village = new Village();
    private int faultPlace = NONE;
    private final State state = new State();
    private final State[] images = new State[MOST_IMAGES];
    private int imageCount = 0;
    private final int[] refused = new int[REASONS];
    private final Thought thought = new Thought();
    private final Hands hands = new Hands();
    private final Book book = new Book();
    private final Market market = new Market();
    private final Sayings sayings = new Sayings();
    private final Chances chances = new Chances();

    public NailedBoxes() {
        for (int k = 0; k < MOST_IMAGES; k++) {
            images[k] = new State();
        }
    }

    // ---- the tape and the village ----

    public int feed(int a, int b, int c, int d, int e) {
        if (tapeLength + 20 > MOST_BYTES) {
            return NONE;
        }
        layOnTape(a);
        layOnTape(b);
        layOnTape(c);
        layOnTape(d);
        layOnTape(e);
        return tapeLength;
    }

    private void layOnTape(int number) {
        for (int shift = 24; shift >= 0 && tapeLength < MOST_BYTES; shift -= 8) {
            tape[tapeLength] = (byte) (number >>> shift);
            tapeLength++;
        }
    }

    public int village(int n) {
        if (n < 0 || n > tapeLength) {
            refuse(NOT_AS_TOLD);
            return NOT_A_TEXT;
        }
        faultPlace = reader.read(tape, n);
        tapeLength = 0;
        if (faultPlace != NONE) {
            return refuse(A_FAULT);
        }
        Village former = village;
        village = reader.draft;
        reader.draft = former;
        state.begin(village);
        imageCount = 0;
        return village.statements;
    }

    public int fault() {
        return faultPlace;
    }

    public int thing(int thing, int what) {
        if (!village.things.has(thing)) {
            return NONE;
        }
        if (what == 0) {
            return village.things.get(thing, Village.WEIGHT);
        }
        if (what == 1) {
            return village.things.get(thing, Village.SOUND);
        }
        if (isMonth(what - 10)) {
            return village.worthOf(thing, what - 10);
        }
        return isMonth(what - 20) ? village.keptOf(thing, what - 20) : NONE;
    }

    public int who(int who, int what) {
        if (!village.people.has(who)) {
            return NONE;
        }
        switch (what) {
            case 0:
                return village.people.get(who, Village.MANNER);
            case 1:
                return state.purseOf(who);
            case 2:
                return state.boxesInHands(who);
            default:
                return village.things.has(what - 10) ? village.shareOf(who, what - 10) : NONE;
        }
    }

    // ---- boxes ahead of June ----

    public int box(int who, int thing) {
        if (isJune() || village.shareOf(who, thing) == 0) {
            return refuse(NOT_AS_TOLD);
        }
        if (state.boxes.isFull()) {
            return refuse(NO_ROOM);
        }
        return state.addBox(who, thing);
    }

    public boolean into(int box, int other) {
        boolean canBe = !isJune() && box != other
                && state.isOutermost(box) && state.isOutermost(other)
                && state.handsOf(box) == state.handsOf(other);
        if (!canBe) {
            return deny(NOT_AS_TOLD);
        }
        state.boxes.set(box, State.OUTER, other);
        return true;
    }

    public int month() {
        if (isJune() || village.things.rows == 0 && village.people.rows == 0) {
            return refuse(NOT_AS_TOLD);
        }
        state.month++;
        return state.month;
    }

    public boolean sell(int box, int to, int price) {
        if (price < 0 || !canGo(box, to, price)) {
            return deny(NOT_AS_TOLD);
        }
        if (state.record.isFull()) {
            return deny(NO_ROOM);
        }
        int from = state.handsOf(box);
        state.addRecord(box, SOLD, from, to, price);
        state.hand(box, to);
        state.pay(to, from, price);
        return true;
    }

    public boolean say(int box, int thing) {
        if (isJune() || !state.boxes.has(box) || !village.things.has(thing)) {
            return deny(NOT_AS_TOLD);
        }
        if (state.record.isFull()) {
            return deny(NO_ROOM);
        }
        state.addRecord(box, SAID, state.handsOf(box), NONE, thing);
        return true;
    }

    public boolean sign(int box, int kind, int reading) {
        boolean isReading = kind == 0 && reading >= 0 && reading <= 99
                || kind == 1 && reading >= 0 && reading <= 9;
        if (isJune() || !isReading || !state.boxes.has(box)) {
            return deny(NOT_AS_TOLD);
        }
        if (state.record.isFull()) {
            return deny(NO_ROOM);
        }
        state.addRecord(box, kind == 0 ? WEIGHT_READ : SOUND_READ, NONE, NONE, reading);
        return true;
    }

    public int open(int box) {
        if (isJune() || !state.boxes.has(box)) {
            return refuse(NOT_AS_TOLD);
        }
        state.learn(box, state.handsOf(box));
        return state.boxes.get(box, State.CONTENT);
    }

    public int told(int box, int what) {
        if (!state.boxes.has(box)) {
            return NONE;
        }
        switch (what) {
            case 0:
                return state.boxes.get(box, State.FILLER);
            case 1:
                return state.handsOf(box);
            case 2:
                return state.boxes.get(box, State.OUTER);
            case 3:
                return state.recordsOf(box);
            case 4:
                return isJune() ? state.boxes.get(box, State.CONTENT) : NONE;
            case 5:
                return state.boxes.get(box, State.KNOWS);
            case 6:
                return state.boxes.get(box, State.FILLED_IN);
            default:
                return NONE;
        }
    }

    public int record(int box, int k, int what) {
        if (what < State.KIND || what > State.MONTH) {
            return NONE;
        }
        return state.record.get(state.findRecord(box, k), what);
    }

    public int think(int box, int thing) {
        if (!state.boxes.has(box) || !village.things.has(thing)) {
            return NONE;
        }
        thought.look(village, state, box);
        return thought.millionths(thing);
    }

    public int mean(int box) {
        if (!state.boxes.has(box)) {
            return NONE;
        }
        thought.look(village, state, box);
        return thought.meanWorth(village);
    }

    public boolean holds(int box, int who, int hundredths) {
        boolean asTold = state.boxes.has(box) && village.people.has(who)
                && hundredths >= 0 && hundredths <= 100
                && state.heldOf(box) - state.heldBy(box, who) + hundredths <= 100;
        if (!asTold) {
            return deny(NOT_AS_TOLD);
        }
        state.hold(box, who, hundredths);
        return true;
    }

    // ---- June ----

    public int june(int who) {
        if (!isJune() || !village.people.has(who)) {
            return NONE;
        }
        hands.gather(state, who);
        return state.purseOf(who) + hands.worthInJune(village, state, who) + hands.pairsWorth(village);
    }

    public int apart() {
        if (!isJune()) {
            return NONE;
        }
        hands.gatherAll(state);
        int apart = hands.pairsWorth(village);
        for (int who = 0; who < village.people.rows; who++) {
            hands.gather(state, who);
            apart -= hands.pairsWorth(village);
        }
        return apart;
    }

    public int lend(int box, int to, int coins, int tenths) {
        if (coins < 1 || tenths < 0 || tenths > 10 || !canGo(box, to, coins)) {
            return refuse(NOT_AS_TOLD);
        }
        if (state.loans.isFull()) {
            return refuse(NO_ROOM);
        }
        int from = state.handsOf(box);
        state.hand(box, to);
        state.pay(to, from, coins);
        return state.addLoan(box, from, to, coins, coins * tenths / 10);
    }

    public boolean bring(int loan) {
        if (isJune() || !state.canBeBroughtBack(loan)) {
            return deny(NOT_AS_TOLD);
        }
        state.bringBack(loan);
        return true;
    }

    public int loan(int loan, int what) {
        return state.loans.get(loan, what);
    }

    public int known(int who, int what) {
        if (!isJune() || !village.people.has(who)) {
            return NONE;
        }
        switch (what) {
            case 0:
                return hands.meanSoldWorth(village, state, who);
            case 1:
                return state.soldOf(who);
            case 2:
                return state.sayingsBy(who, true);
            case 3:
                return state.sayingsBy(who, false);
            default:
                return NONE;
        }
    }

    public int heavy(int box) {
        if (!isJune() || !state.boxes.has(box)) {
            return NONE;
        }
        int weight = 0;
        for (int k = 0; k < state.boxes.rows; k++) {
            if (state.isWithin(k, box)) {
                weight += village.things.get(state.boxes.get(k, State.CONTENT), Village.WEIGHT);
            }
        }
        return weight;
    }

    public int came(int what) {
        switch (what) {
            case 0:
                return state.soldAndBack();
            case 1:
                return state.mostHands();
            case 2:
                return state.greatestPrice();
            default:
                return NONE;
        }
    }

    public int wanted(int box, int what) {
        if (!isJune() || !state.boxes.has(box) || state.heldOf(box) > 0) {
            return NONE;
        }
        int most = 0;
        int by = NONE;
        for (int who = 0; who < village.people.rows; who++) {
            int more = who == state.handsOf(box) ? 0 : hands.moreWith(village, state, who, box);
            if (more > most) {
                most = more;
                by = who;
            }
        }
        if (by == NONE) {
            return NONE;
        }
        return what == 0 ? by : what == 1 ? most : NONE;
    }

    // ---- the book ----

    public int row(int box, int from, int to, int price) {
        boolean asTold = state.boxes.has(box) && village.people.has(from) && village.people.has(to)
                && from != to && price >= 0 && price <= MOST_PRICE;
        if (!asTold) {
            return refuse(NOT_AS_TOLD);
        }
        if (state.book.isFull()) {
            return refuse(NO_ROOM);
        }
        return state.addBookRow(box, from, to, price);
    }

    public int wrong(int what) {
        book.follow(village, state);
        return what == 0 ? book.notHis : what == 1 ? book.tooDear : NONE;
    }

    // ---- prices at rest ----

    public int rest(int law, int who, int thing, int month, int what) {
        if (!isLaw(law) || !isMonth(month) || village.shareOf(who, thing) == 0) {
            return NONE;
        }
        market.prepare(village, month);
        market.gather(village, law, who, thing);
        int price = market.restPrice();
        if (price == NONE) {
            return NONE;
        }
        return what == 0 ? price : what == 1 ? market.soldAt(price) : NONE;
    }

    public int lost(int law, int month) {
        return isLaw(law) && isMonth(month) ? market.lostBy(village, law, month) : NONE;
    }

    public int law(int month) {
        int best = NONE;
        int least = 0;
        for (int law = 0; law < LAWS && isMonth(month); law++) {
            int lost = market.lostBy(village, law, month);
            if (lost != NONE && (best == NONE || lost < least)) {
                best = law;
                least = lost;
            }
        }
        return best;
    }

    public int best(int who, int what) {
        int bestMonth = NONE;
        int greatest = NONE;
        for (int month = 0; month < JUNE; month++) {
            int price = market.priceByName(village, who, month);
            if (price > greatest) {
                bestMonth = month;
                greatest = price;
            }
        }
        return what == 0 ? bestMonth : what == 1 ? greatest : NONE;
    }

    public int little(int who, int month, int price) {
        if (!fills(who) || !isMonth(month) || !isPrice(price)) {
            return NONE;
        }
        market.prepare(village, month);
        market.gatherOwn(village, who);
        return market.hundredthsAbove(price) - Math.max(0, market.hundredthsAbove(0) - 100 * price);
    }

    public int weight(int who, int month) {
        if (!fills(who) || !isMonth(month)) {
            return NONE;
        }
        market.prepare(village, month);
        market.gatherOwn(village, who);
        return market.priceByWeight(village);
    }

    public int hours(int who, int month, int k, int what) {
        boolean known = fills(who) && isMonth(month) && k >= NONE
                && (what == 0 || what == 1 && k != NONE);
        return known ? market.hoursOf(village, who, month, k, what) : NONE;
    }

    public int lasts(int who, int month, int coins, int price, int n) {
        boolean known = fills(who) && isMonth(month) && isPrice(price)
                && coins >= 0 && coins <= MOST_COINS && n >= 1 && n <= MOST_TO_BUY;
        return known ? chances.ofLasting(village, who, month, coins, price, n) : NONE;
    }

    // ---- sayings, names, filling, years ----

    public int liars(int who, int month, int cost) {
        if (!fills(who) || !isMonth(month) || !isPrice(cost)) {
            return NONE;
        }
        sayings.prepare(village, who, month);
        return sayings.largestLie(cost);
    }

    public int honest(int who, int month, int what) {
        if (!fills(who) || !isMonth(month)) {
            return NONE;
        }
        sayings.prepare(village, who, month);
        return what == 0 ? sayings.honestCost() : what == 1 ? sayings.top : NONE;
    }

    public int name(int who, int tenths, int what) {
        if (!fills(who) || tenths < 0 || tenths > 9) {
            return NONE;
        }
        int more = Math.max(0, market.priceByName(village, who, 0) - market.priceSealed(village, 0));
        int upper = 10 * more;
        int lower = 10 - tenths;
        int common = commonDivisor(upper, lower);
        return what == 0 ? upper / common : what == 1 ? lower / common : NONE;
    }

    public int fill(int who, int law, int month, int what) {
        if (!isLaw(law) || !isMonth(month)) {
            return NONE;
        }
        int best = NONE;
        int most = NONE;
        for (int thing = 0; thing < village.things.rows; thing++) {
            int brings = village.shareOf(who, thing) == 0
                    ? NONE : market.bringsBy(village, law, who, thing, month);
            if (brings > most) {
                best = thing;
                most = brings;
            }
        }
        return what == 0 ? best : what == 1 ? most : NONE;
    }

    public int years(int who, int n, int what) {
        boolean known = fills(who) && n >= 1 && n <= MOST_YEARS
                && (what == 0 || village.things.has(what - 10));
        if (!known) {
            return NONE;
        }
        int price = market.priceByName(village, who, 0);
        int sold = market.soldAt(price);
        int brought = 0;
        int often = 0;
        long z = state.z;
        for (int year = 0; year < n; year++) {
            z = z * DRAW_TIMES + DRAW_PLUS;
            int thing = village.thingDrawn(who, z >>> 33);
            brought += (sold >> thing & 1) == 1 ? price : village.keptOf(thing, 0);
            often += thing == what - 10 ? 1 : 0;
        }
        return what == 0 ? brought : often;
    }

    public boolean seed(int v) {
        if (v < 0 || v > MOST_SEED) {
            return deny(NOT_AS_TOLD);
        }
        state.z = v;
        return true;
    }

    // ---- images and counts ----

    public int image() {
        if (imageCount >= MOST_IMAGES) {
            return refuse(NO_ROOM);
        }
        images[imageCount].copyFrom(state);
        imageCount++;
        return imageCount - 1;
    }

    public boolean back(int image) {
        if (image < 0 || image >= imageCount || image >= MOST_IMAGES) {
            return deny(NOT_AS_TOLD);
        }
        state.copyFrom(images[image]);
        return true;
    }

    public int count(int what) {
        switch (what) {
            case 0:
                return village.things.rows;
            case 1:
                return village.people.rows;
            case 2:
                return village.pairs.rows;
            case 3:
                return state.boxes.rows;
            case 4:
                return state.record.rows;
            case 5:
                return state.month;
            case 6:
                return state.book.rows;
            case 7:
                return tapeLength;
            case 8:
                return imageCount;
            case 9:
                return village.statements;
            case 13:
                return state.loans.rows;
            default:
                return what >= 10 && what < 10 + REASONS ? refused[what - 10] : NONE;
        }
    }

    // ---- what is asked of arguments ----

    private int refuse(int reason) {
        if (reason >= 0 && reason < REASONS) {
            refused[reason]++;
        }
        return NONE;
    }

    private boolean deny(int reason) {
        refuse(reason);
        return false;
    }

    private boolean isJune() {
        return state.month >= JUNE;
    }

    private boolean canGo(int box, int to, int coins) {
        return !isJune() && coins <= MOST_PRICE && village.people.has(to)
                && state.isOutermost(box) && state.handsOf(box) != to
                && state.purseOf(to) >= coins;
    }

    private boolean fills(int who) {
        return village.allSharesOf(who) > 0;
    }

    private static boolean isMonth(int month) {
        return month >= 0 && month <= JUNE;
    }

    private static boolean isLaw(int law) {
        return law >= 0 && law < LAWS;
    }

    private static boolean isPrice(int price) {
        return price >= 0 && price <= MOST_COINS;
    }

    private static int commonDivisor(int upper, int lower) {
        int a = upper;
        int b = lower;
        // Euclid's remainders of numbers below 2^31 end within some fifty steps
        for (int step = 0; step < 100 && b != 0; step++) {
            int rest = a % b;
            a = b;
            b = rest;
        }
        return Math.max(1, a);
    }

    /** Rows of numbers in one array, so that an image is a few copies of arrays. */
    private static final class Table {
        final int width;
        final int[] cells;
        int rows = 0;

        Table(int most, int width) {
            this.width = Math.max(1, width);
            this.cells = new int[Math.max(0, most) * this.width];
        }

        boolean has(int row) {
            return row >= 0 && row < rows;
        }

        boolean isFull() {
            return (rows + 1) * width > cells.length;
        }

        int get(int row, int column) {
            boolean isThere = row >= 0 && row < rows && column >= 0 && column < width;
            return isThere ? cells[row * width + column] : NONE;
        }

        void set(int row, int column, int value) {
            if (has(row) && column >= 0 && column < width) {
                cells[row * width + column] = value;
            }
        }

        int append() {
            if (isFull()) {
                return NONE;
            }
            rows++;
            return rows - 1;
        }

        void copyFrom(Table other) {
            rows = other.rows;
            System.arraycopy(other.cells, 0, cells, 0, Math.min(cells.length, other.cells.length));
        }
    }

    /** What a text tells, and what follows from it alone. */
    private static final class Village {
        static final int WORTH = 0;
        static final int WEIGHT = 1;
        static final int SOUND = 2;
        static final int SPOILS = 3;
        static final int MANNER = 0;
        static final int PURSE = 1;
        static final int ALL_SHARES = 2;
        static final int ONE = 0;
        static final int OTHER = 1;
        static final int BRINGS = 2;

        final long[] thingNames = new long[MOST_THINGS];
        final Table things = new Table(MOST_THINGS, 4);
        final long[] whoNames = new long[MOST_PEOPLE];
        final Table people = new Table(MOST_PEOPLE, 3);
        final int[] shares = new int[MOST_PEOPLE * MOST_THINGS];
        final Table pairs = new Table(MOST_PAIRS, 3);
        int keeps = 8;
        int weigh = 8;
        int shake = 6;
        int statements = 0;

        void clear() {
            things.rows = 0;
            people.rows = 0;
            pairs.rows = 0;
            Arrays.fill(shares, 0);
            keeps = 8;
            weigh = 8;
            shake = 6;
            statements = 0;
        }

        void addThing(long name, int worth, int weight, int sound, int spoils) {
            int thing = things.append();
            if (thing < 0 || thing >= MOST_THINGS) {
                return;
            }
            thingNames[thing] = name;
            things.set(thing, WORTH, worth);
            things.set(thing, WEIGHT, weight);
            things.set(thing, SOUND, sound);
            things.set(thing, SPOILS, spoils);
        }

        void addWho(long name, int manner, int purse) {
            int who = people.append();
            if (who < 0 || who >= MOST_PEOPLE) {
                return;
            }
            whoNames[who] = name;
            people.set(who, MANNER, manner);
            people.set(who, PURSE, purse);
            people.set(who, ALL_SHARES, 0);
        }

        void addPair(int one, int other, int brings) {
            int pair = pairs.append();
            pairs.set(pair, ONE, one);
            pairs.set(pair, OTHER, other);
            pairs.set(pair, BRINGS, brings);
        }

        void takeShares(int who) {
            for (int thing = 0; thing < MOST_THINGS; thing++) {
                setShare(who, thing, 0);
            }
        }

        void setShare(int who, int thing, int share) {
            if (people.has(who) && thing >= 0 && thing < MOST_THINGS) {
                shares[who * MOST_THINGS + thing] = share;
            }
        }

        /** Called at the text's end, for things may be told behind people. */
        void sumShares() {
            for (int who = 0; who < people.rows; who++) {
                int all = addUp(who);
                for (int thing = 0; thing < things.rows && all == 0; thing++) {
                    setShare(who, thing, 1);
                }
                people.set(who, ALL_SHARES, all == 0 ? things.rows : all);
            }
        }

        private int addUp(int who) {
            int all = 0;
            for (int thing = 0; thing < things.rows; thing++) {
                all += shareOf(who, thing);
            }
            return all;
        }

        int shareOf(int who, int thing) {
            return people.has(who) && things.has(thing) ? shares[who * MOST_THINGS + thing] : 0;
        }

        int allSharesOf(int who) {
            return people.has(who) ? people.get(who, ALL_SHARES) : 0;
        }

        long millionthsOf(int who, int thing) {
            int all = allSharesOf(who);
            return all > 0 ? shareOf(who, thing) * MILLION / all : 0;
        }

        int worthOf(int thing, int month) {
            return Math.max(0, things.get(thing, WORTH) - things.get(thing, SPOILS) * month);
        }

        int keptOf(int thing, int month) {
            return worthOf(thing, month) * keeps / 10;
        }

        int thingDrawn(int who, long drawn) {
            int all = allSharesOf(who);
            long left = all > 0 ? drawn % all : 0;
            for (int thing = 0; thing < things.rows; thing++) {
                left -= shareOf(who, thing);
                if (left < 0) {
                    return thing;
                }
            }
            return 0;
        }
    }

    /** Reads a text into a village; the first fault stays, and what is read behind it counts nothing. */
    private static final class Reader {
        private static final int END = 0;
        private static final int WORD = 1;
        private static final int NUMBER = 2;
        private static final int OTHER = 3;
        private static final int BLANK = 4;
        private static final int MOST_LETTERS = 8;
        private static final int MOST_DIGITS = 4;

        // no NAME may be one of these; each is its letters' bytes, as a token's value is
        private static final long[] WORDS = {
            0x7468696e67L, // thing
            0x77686fL, // who
            0x66696c6c73L, // fills
            0x70616972L, // pair
            0x6b65657073L, // keeps
            0x7765696768L, // weigh
            0x7368616b65L, // shake
            0x73706f696c73L, // spoils
            0x66616972L, // fair
            0x6e616d65L, // name
            0x6c656d6f6eL, // lemon
            0x62657374L, // best
            0x636861696eL, // chain
            0x73776f726eL // sworn
        };
        private static final int THING = 0;
        private static final int WHO = 1;
        private static final int FILLS = 2;
        private static final int PAIR = 3;
        private static final int KEEPS = 4;
        private static final int WEIGH = 5;
        private static final int SHAKE = 6;
        private static final int SPOILS = 7;
        private static final int FIRST_MANNER = 8;

        // of each token: where it begins, its kind, how many bytes, its value, its place in WORDS
        private final int[] starts = new int[MOST_BYTES + 1];
        private final int[] kinds = new int[MOST_BYTES + 1];
        private final int[] sizes = new int[MOST_BYTES + 1];
        private final long[] values = new long[MOST_BYTES + 1];
        private final int[] words = new int[MOST_BYTES + 1];
        private int tokens = 0;
        private int at = 0;
        private int faultAt = NONE;
        Village draft = new Village();

        /** The fault's place in the first n bytes, or NONE. */
        int read(byte[] text, int n) {
            split(text, Math.min(n, Math.min(MOST_BYTES, text.length)));
            draft.clear();
            at = 0;
            faultAt = NONE;
            for (int k = 0; k < MOST_STATEMENTS && kinds[at] != END && faultAt == NONE; k++) {
                readStatement();
                accept(isSign(';'));
                draft.statements++;
            }
            if (kinds[at] != END) {
                fail();
            }
            draft.sumShares();
            return faultAt;
        }

        private void readStatement() {
            int first = words[at];
            accept(first >= THING && first <= SHAKE && !(first == PAIR && draft.pairs.isFull()));
            switch (first) {
                case THING:
                    readThing();
                    break;
                case WHO:
                    readWho();
                    break;
                case FILLS:
                    readFills();
                    break;
                case PAIR:
                    readPair();
                    break;
                case KEEPS:
                    draft.keeps = takeNumber(0, 10);
                    break;
                case WEIGH:
                    draft.weigh = takeNumber(0, 10);
                    break;
                case SHAKE:
                    draft.shake = takeNumber(0, 10);
                    break;
                default:
                    break;
            }
        }

        private void readThing() {
            long name = takeNewName(draft.things);
            int worth = takeNumber(0, 999);
            int weight = takeNumber(0, 99);
            int sound = takeNumber(0, 9);
            int spoils = 0;
            if (words[at] == SPOILS) {
                accept(true);
                spoils = takeNumber(0, 99);
            }
            if (faultAt == NONE) {
                draft.addThing(name, worth, weight, sound, spoils);
            }
        }

        private void readWho() {
            long name = takeNewName(draft.people);
            int manner = words[at] - FIRST_MANNER;
            accept(manner >= 0);
            int purse = takeNumber(0, MOST_PRICE);
            if (faultAt == NONE) {
                draft.addWho(name, manner, purse);
            }
        }

        private void readFills() {
            int who = findName(draft.whoNames, draft.people.rows);
            accept(who != NONE);
            draft.takeShares(who);
            boolean more = true;
            // one round above the THINGS, so that the fault is at the NAME that comes too often
            for (int k = 0; k <= MOST_THINGS && more; k++) {
                int share = takeNumber(1, 99);
                int thing = findName(draft.thingNames, draft.things.rows);
                accept(thing != NONE && draft.shareOf(who, thing) == 0);
                draft.setShare(who, thing, share);
                more = isSign(',') && faultAt == NONE;
                if (more) {
                    accept(true);
                }
            }
        }

        private void readPair() {
            int one = findName(draft.thingNames, draft.things.rows);
            accept(one != NONE);
            int other = findName(draft.thingNames, draft.things.rows);
            accept(other != NONE && other != one);
            int brings = takeNumber(1, 999);
            if (faultAt == NONE) {
                draft.addPair(one, other, brings);
            }
        }

        private int takeNumber(int least, int most) {
            boolean fits = kinds[at] == NUMBER && sizes[at] <= MOST_DIGITS
                    && values[at] >= least && values[at] <= most;
            int taken = fits ? (int) values[at] : NONE;
            accept(fits);
            return taken;
        }

        private long takeNewName(Table told) {
            long name = values[at];
            boolean isNew = findName(draft.thingNames, draft.things.rows) == NONE
                    && findName(draft.whoNames, draft.people.rows) == NONE;
            accept(isName() && isNew && !told.isFull());
            return name;
        }

        private int findName(long[] names, int count) {
            for (int k = 0; k < count && k < names.length && isName(); k++) {
                if (names[k] == values[at]) {
                    return k;
                }
            }
            return NONE;
        }

        private boolean isName() {
            return kinds[at] == WORD && words[at] == NONE && sizes[at] <= MOST_LETTERS;
        }

        private boolean isSign(char sign) {
            return kinds[at] == OTHER && values[at] == sign;
        }

        private void accept(boolean fits) {
            if (!fits || faultAt != NONE) {
                fail();
            } else if (at < tokens - 1) {
                at++;
            }
        }

        private void fail() {
            if (faultAt == NONE) {
                faultAt = starts[at];
            }
        }

        /** The last token is the end, which no rule takes. */
        private void split(byte[] text, int length) {
            tokens = 0;
            int former = BLANK;
            for (int place = 0; place < length; place++) {
                int kind = kindOf(text[place]);
                if (kind != BLANK && (kind != former || kind == OTHER)) {
                    beginToken(place, kind);
                }
                if (kind != BLANK) {
                    lengthen(text[place]);
                }
                former = kind;
            }
            beginToken(length, END);
            for (int k = 0; k < tokens; k++) {
                words[k] = wordNumber(k);
            }
        }

        private void beginToken(int place, int kind) {
            if (tokens < starts.length) {
                starts[tokens] = place;
                kinds[tokens] = kind;
                sizes[tokens] = 0;
                values[tokens] = 0;
                tokens++;
            }
        }

        /** What is longer than a name or a number may be isn't looked at, so its value may wrap. */
        private void lengthen(int sign) {
            int last = tokens - 1;
            if (last >= 0) {
                sizes[last]++;
                values[last] = kinds[last] == NUMBER
                        ? values[last] * 10 + (sign - '0') : values[last] << 8 | sign & 255;
            }
        }

        private static int kindOf(int sign) {
            if (sign == 32 || sign == 10) {
                return BLANK;
            }
            if (sign >= 'a' && sign <= 'z') {
                return WORD;
            }
            return sign >= '0' && sign <= '9' ? NUMBER : OTHER;
        }

        private int wordNumber(int token) {
            for (int k = 0; k < WORDS.length && kinds[token] == WORD; k++) {
                if (WORDS[k] == values[token]) {
                    return k;
                }
            }
            return NONE;
        }
    }

    /** All that an image holds. */
    private static final class State {
        static final int FILLER = 0;
        static final int CONTENT = 1;
        static final int HANDS = 2;
        static final int OUTER = 3;
        static final int KNOWS = 4;
        static final int FILLED_IN = 5;

        // the first five in the order in which they are asked for
        static final int KIND = 0;
        static final int BY = 1;
        static final int TO = 2;
        static final int VALUE = 3;
        static final int MONTH = 4;
        static final int OF_BOX = 5;
        static final int KNEW = 6;

        // all in the order in which they are asked for
        static final int LENT_BOX = 0;
        static final int LENT_BY = 1;
        static final int LENT_TO = 2;
        static final int LENT_COINS = 3;
        static final int LENT_MORE = 4;
        static final int LENT_BACK = 5;

        static final int ROW_BOX = 0;
        static final int ROW_FROM = 1;
        static final int ROW_TO = 2;
        static final int ROW_PRICE = 3;

        final Table boxes = new Table(MOST_BOXES, 6);
        final Table record = new Table(MOST_RECORDS, 7);
        final Table loans = new Table(MOST_LOANS, 6);
        final Table book = new Table(MOST_BOOK_ROWS, 4);
        final int[] holders = new int[MOST_BOXES * MOST_PEOPLE];
        final int[] purses = new int[MOST_PEOPLE];
        int month = 0;
        long z = 1;

        void begin(Village village) {
            boxes.rows = 0;
            record.rows = 0;
            loans.rows = 0;
            book.rows = 0;
            month = 0;
            for (int who = 0; who < MOST_PEOPLE; who++) {
                purses[who] = village.people.get(who, Village.PURSE);
            }
        }

        void copyFrom(State other) {
            boxes.copyFrom(other.boxes);
            record.copyFrom(other.record);
            loans.copyFrom(other.loans);
            book.copyFrom(other.book);
            System.arraycopy(other.holders, 0, holders, 0, holders.length);
            System.arraycopy(other.purses, 0, purses, 0, purses.length);
            month = other.month;
            z = other.z;
        }

        int addBox(int who, int thing) {
            int box = boxes.append();
            boxes.set(box, FILLER, who);
            boxes.set(box, CONTENT, thing);
            boxes.set(box, HANDS, who);
            boxes.set(box, OUTER, NONE);
            boxes.set(box, KNOWS, 0);
            boxes.set(box, FILLED_IN, month);
            learn(box, who);
            for (int holder = 0; holder < MOST_PEOPLE; holder++) {
                hold(box, holder, 0);
            }
            return box;
        }

        void addRecord(int box, int kind, int by, int to, int value) {
            int row = record.append();
            record.set(row, KIND, kind);
            record.set(row, BY, by);
            record.set(row, TO, to);
            record.set(row, VALUE, value);
            record.set(row, MONTH, month);
            record.set(row, OF_BOX, box);
            // who opens it later didn't know then
            record.set(row, KNEW, by != NONE && knows(box, by) ? 1 : 0);
        }

        int addLoan(int box, int by, int to, int coins, int more) {
            int loan = loans.append();
            loans.set(loan, LENT_BOX, box);
            loans.set(loan, LENT_BY, by);
            loans.set(loan, LENT_TO, to);
            loans.set(loan, LENT_COINS, coins);
            loans.set(loan, LENT_MORE, more);
            loans.set(loan, LENT_BACK, 0);
            return loan;
        }

        int addBookRow(int box, int from, int to, int price) {
            int row = book.append();
            book.set(row, ROW_BOX, box);
            book.set(row, ROW_FROM, from);
            book.set(row, ROW_TO, to);
            book.set(row, ROW_PRICE, price);
            return book.rows;
        }

        boolean canBeBroughtBack(int loan) {
            int box = loans.get(loan, LENT_BOX);
            return loans.get(loan, LENT_BACK) == 0 && isOutermost(box)
                    && handsOf(box) == loans.get(loan, LENT_TO)
                    && purseOf(loans.get(loan, LENT_BY)) >= owed(loan);
        }

        void bringBack(int loan) {
            int by = loans.get(loan, LENT_BY);
            hand(loans.get(loan, LENT_BOX), by);
            pay(by, loans.get(loan, LENT_TO), owed(loan));
            loans.set(loan, LENT_BACK, 1);
        }

        private int owed(int loan) {
            return loans.get(loan, LENT_COINS) + loans.get(loan, LENT_MORE);
        }

        void hand(int box, int to) {
            boxes.set(box, HANDS, to);
        }

        void pay(int from, int to, int coins) {
            if (isPurse(from) && isPurse(to)) {
                purses[from] -= coins;
                purses[to] += coins;
            }
        }

        int purseOf(int who) {
            return isPurse(who) ? purses[who] : NONE;
        }

        private static boolean isPurse(int who) {
            return who >= 0 && who < MOST_PEOPLE;
        }

        void learn(int box, int who) {
            if (isPurse(who)) {
                boxes.set(box, KNOWS, boxes.get(box, KNOWS) | 1 << who);
            }
        }

        boolean knows(int box, int who) {
            return boxes.has(box) && isPurse(who) && (boxes.get(box, KNOWS) >> who & 1) == 1;
        }

        boolean isOutermost(int box) {
            return boxes.has(box) && boxes.get(box, OUTER) == NONE;
        }

        private int outermostOf(int box) {
            int outermost = box;
            for (int k = 0; k < MOST_BOXES && boxes.get(outermost, OUTER) != NONE; k++) {
                outermost = boxes.get(outermost, OUTER);
            }
            return outermost;
        }

        int handsOf(int box) {
            return boxes.get(outermostOf(box), HANDS);
        }

        boolean isWithin(int box, int outer) {
            int around = box;
            for (int k = 0; k < MOST_BOXES && around != outer && around != NONE; k++) {
                around = boxes.get(around, OUTER);
            }
            return around == outer;
        }

        int boxesInHands(int who) {
            int count = 0;
            for (int box = 0; box < boxes.rows; box++) {
                count += handsOf(box) == who ? 1 : 0;
            }
            return count;
        }

        private static boolean isHolder(int box, int who) {
            return box >= 0 && box < MOST_BOXES && who >= 0 && who < MOST_PEOPLE;
        }

        void hold(int box, int who, int hundredths) {
            if (isHolder(box, who)) {
                holders[box * MOST_PEOPLE + who] = hundredths;
            }
        }

        int heldBy(int box, int who) {
            return isHolder(box, who) ? holders[box * MOST_PEOPLE + who] : 0;
        }

        int heldOf(int box) {
            int held = 0;
            for (int who = 0; who < MOST_PEOPLE; who++) {
                held += heldBy(box, who);
            }
            return held;
        }

        int recordsOf(int box) {
            int count = 0;
            for (int row = 0; row < record.rows; row++) {
                count += record.get(row, OF_BOX) == box ? 1 : 0;
            }
            return count;
        }

        int findRecord(int box, int k) {
            int ahead = k;
            for (int row = 0; row < record.rows; row++) {
                boolean isOfBox = record.get(row, OF_BOX) == box;
                if (isOfBox && ahead == 0) {
                    return row;
                }
                ahead -= isOfBox ? 1 : 0;
            }
            return NONE;
        }

        int salesOf(int box) {
            int count = 0;
            for (int row = 0; row < record.rows; row++) {
                boolean isSale = record.get(row, OF_BOX) == box && record.get(row, KIND) == SOLD;
                count += isSale ? 1 : 0;
            }
            return count;
        }

        int soldOf(int filler) {
            int count = 0;
            for (int box = 0; box < boxes.rows; box++) {
                count += boxes.get(box, FILLER) == filler && salesOf(box) > 0 ? 1 : 0;
            }
            return count;
        }

        int sayingsBy(int who, boolean so) {
            int count = 0;
            for (int row = 0; row < record.rows; row++) {
                if (record.get(row, KIND) == SAID && record.get(row, BY) == who) {
                    int content = boxes.get(record.get(row, OF_BOX), CONTENT);
                    count += (record.get(row, VALUE) == content) == so ? 1 : 0;
                }
            }
            return count;
        }

        int soldAndBack() {
            int count = 0;
            for (int box = 0; box < boxes.rows; box++) {
                boolean isBack = handsOf(box) == boxes.get(box, FILLER) && salesOf(box) > 0;
                count += isBack ? 1 : 0;
            }
            return count;
        }

        int mostHands() {
            int most = 0;
            for (int box = 0; box < boxes.rows; box++) {
                most = Math.max(most, salesOf(box));
            }
            return most;
        }

        int greatestPrice() {
            int greatest = NONE;
            for (int row = 0; row < record.rows; row++) {
                boolean isSale = record.get(row, KIND) == SOLD;
                greatest = isSale ? Math.max(greatest, record.get(row, VALUE)) : greatest;
            }
            return greatest;
        }
    }

    /** How likely each thing is in the box that was looked at last. */
    private static final class Thought {
        private final long[] likely = new long[MOST_THINGS];
        private final int[] lastSaid = new int[MOST_PEOPLE];
        private long all = 0;

        void look(Village village, State state, int box) {
            begin(village, state.boxes.get(box, State.FILLER));
            for (int row = 0; row < state.record.rows; row++) {
                if (state.record.get(row, State.OF_BOX) == box) {
                    for (int thing = 0; thing < MOST_THINGS; thing++) {
                        likely[thing] = likely[thing] * tenthsOf(village, state.record, row, thing) / 10;
                    }
                    noteSaying(state.record, row);
                }
            }
            all = 0;
            for (int thing = 0; thing < MOST_THINGS; thing++) {
                all += likely[thing];
            }
        }

        private void begin(Village village, int filler) {
            Arrays.fill(lastSaid, NONE);
            int shares = Math.max(1, village.allSharesOf(filler));
            for (int thing = 0; thing < MOST_THINGS; thing++) {
                likely[thing] = CERTAIN * village.shareOf(filler, thing) / shares;
            }
        }

        private void noteSaying(Table record, int row) {
            int by = record.get(row, State.BY);
            if (record.get(row, State.KIND) == SAID && by >= 0 && by < MOST_PEOPLE) {
                lastSaid[by] = record.get(row, State.VALUE);
            }
        }

        /** Ten tenths leave a thing as likely as it was. */
        private int tenthsOf(Village village, Table record, int row, int thing) {
            int value = record.get(row, State.VALUE);
            switch (record.get(row, State.KIND)) {
                case WEIGHT_READ:
                    return village.things.get(thing, Village.WEIGHT) == value
                            ? village.weigh : 10 - village.weigh;
                case SOUND_READ:
                    return village.things.get(thing, Village.SOUND) == value
                            ? village.shake : 10 - village.shake;
                case SAID:
                    return record.get(row, State.KNEW) == 1
                            ? saidTenths(mannerOf(village, record, row), value == thing) : 10;
                default:
                    return record.get(row, State.KNEW) == 1
                            ? soldTenths(village, record, row, thing) : 10;
            }
        }

        private static int mannerOf(Village village, Table record, int row) {
            return village.people.get(record.get(row, State.BY), Village.MANNER);
        }

        private static int saidTenths(int manner, boolean isSo) {
            switch (manner) {
                case FAIR:
                    return isSo ? 9 : 1;
                case NAME:
                    return isSo ? 8 : 2;
                case SWORN:
                    return isSo ? 10 : 0;
                default:
                    return 10;
            }
        }

        private int soldTenths(Village village, Table record, int row, int thing) {
            int price = record.get(row, State.VALUE);
            int month = record.get(row, State.MONTH);
            switch (mannerOf(village, record, row)) {
                case LEMON:
                    return village.worthOf(thing, month) < price ? 9 : 1;
                case BEST:
                    return village.keptOf(thing, month) <= price ? 9 : 1;
                case NAME:
                    return asSaidTenths(record.get(row, State.BY), thing);
                default:
                    return 10;
            }
        }

        private int asSaidTenths(int by, int thing) {
            int said = by >= 0 && by < MOST_PEOPLE ? lastSaid[by] : NONE;
            return said == NONE ? 10 : said == thing ? 8 : 2;
        }

        int millionths(int thing) {
            if (all <= 0 || thing < 0 || thing >= MOST_THINGS) {
                return NONE;
            }
            int quotient = 0;
            long left = likely[thing];
            // digit by digit, for a million times as much is above 64 bits
            for (int digit = 0; digit < 6; digit++) {
                left *= 10;
                quotient = quotient * 10 + (int) (left / all);
                left %= all;
            }
            return quotient;
        }

        int meanWorth(Village village) {
            if (all <= 0) {
                return NONE;
            }
            long worth = 0;
            for (int thing = 0; thing < village.things.rows && thing < MOST_THINGS; thing++) {
                worth += likely[thing] * village.worthOf(thing, JUNE);
            }
            // the whole first, for a hundred times as much is above 64 bits
            return (int) (worth / all * 100 + worth % all * 100 / all);
        }
    }

    /** The things in somebody's hands in June, but for boxes with holders. */
    private static final class Hands {
        private final int[] held = new int[MOST_THINGS];

        void gather(State state, int who) {
            Arrays.fill(held, 0);
            for (int box = 0; box < state.boxes.rows; box++) {
                if (state.handsOf(box) == who) {
                    lay(state, box);
                }
            }
        }

        void gatherAll(State state) {
            Arrays.fill(held, 0);
            for (int box = 0; box < state.boxes.rows; box++) {
                lay(state, box);
            }
        }

        private void lay(State state, int box) {
            int thing = state.boxes.get(box, State.CONTENT);
            if (thing >= 0 && thing < MOST_THINGS && state.heldOf(box) == 0) {
                held[thing]++;
            }
        }

        int pairsWorth(Village village) {
            int worth = 0;
            for (int pair = 0; pair < village.pairs.rows; pair++) {
                int often = Math.min(heldOf(village.pairs.get(pair, Village.ONE)),
                        heldOf(village.pairs.get(pair, Village.OTHER)));
                worth += often * village.pairs.get(pair, Village.BRINGS);
            }
            return worth;
        }

        private int heldOf(int thing) {
            return thing >= 0 && thing < MOST_THINGS ? held[thing] : 0;
        }

        int moreWith(Village village, State state, int who, int box) {
            gather(state, who);
            int without = pairsWorth(village);
            lay(state, box);
            return pairsWorth(village) - without;
        }

        int worthInJune(Village village, State state, int who) {
            int worth = 0;
            for (int box = 0; box < state.boxes.rows; box++) {
                int here = village.worthOf(state.boxes.get(box, State.CONTENT), JUNE);
                if (state.heldOf(box) > 0) {
                    worth += state.heldBy(box, who) * here / 100;
                } else if (state.handsOf(box) == who) {
                    worth += here;
                }
            }
            return worth;
        }

        int meanSoldWorth(Village village, State state, int filler) {
            int count = 0;
            int worth = 0;
            for (int box = 0; box < state.boxes.rows; box++) {
                if (state.boxes.get(box, State.FILLER) == filler && state.salesOf(box) > 0) {
                    count++;
                    worth += village.worthOf(state.boxes.get(box, State.CONTENT), JUNE);
                }
            }
            return count == 0 ? NONE : worth * 100 / count;
        }
    }

    /** Follows the book's rows from who filled each box and the village's purses. */
    private static final class Book {
        private final int[] inHands = new int[MOST_BOXES];
        private final int[] purses = new int[MOST_PEOPLE];
        int notHis = NONE;
        int tooDear = NONE;

        void follow(Village village, State state) {
            for (int box = 0; box < MOST_BOXES; box++) {
                inHands[box] = state.boxes.get(box, State.FILLER);
            }
            for (int who = 0; who < MOST_PEOPLE; who++) {
                purses[who] = village.people.get(who, Village.PURSE);
            }
            notHis = NONE;
            tooDear = NONE;
            for (int row = 0; row < state.book.rows; row++) {
                followRow(state.book, row);
            }
        }

        private void followRow(Table rows, int row) {
            int box = rows.get(row, State.ROW_BOX);
            int from = rows.get(row, State.ROW_FROM);
            int to = rows.get(row, State.ROW_TO);
            int price = rows.get(row, State.ROW_PRICE);
            if (!isThere(box, MOST_BOXES) || !isThere(from, MOST_PEOPLE) || !isThere(to, MOST_PEOPLE)) {
                return;
            }
            if (inHands[box] != from) {
                notHis = notHis == NONE ? row : notHis;
                return;
            }
            if (purses[to] < price && tooDear == NONE) {
                tooDear = row;
            }
            purses[to] -= price;
            purses[from] += price;
            inHands[box] = to;
        }

        private static boolean isThere(int number, int most) {
            return number >= 0 && number < most;
        }
    }

    /** A pool of shares in one month, and the prices at which it rests. */
    private static final class Market {
        private final long[] pool = new long[MOST_THINGS];
        private final int[] worth = new int[MOST_THINGS];
        private final int[] kept = new int[MOST_THINGS];

        void prepare(Village village, int month) {
            for (int thing = 0; thing < MOST_THINGS; thing++) {
                worth[thing] = village.worthOf(thing, month);
                kept[thing] = village.keptOf(thing, month);
            }
        }

        /** The pool by a law in which a thing of somebody's is. */
        void gather(Village village, int law, int who, int thing) {
            Arrays.fill(pool, 0L);
            for (int k = 0; k < village.people.rows; k++) {
                for (int t = 0; t < MOST_THINGS; t++) {
                    if (isTogether(village, law, who == k, thing, t)) {
                        pool[t] += village.millionthsOf(k, t);
                    }
                }
            }
        }

        private static boolean isTogether(Village village, int law, boolean sameFiller, int one, int other) {
            switch (law) {
                case SEALED:
                    return true;
                case BY_NAME:
                    return sameFiller;
                case BY_SOUND:
                    return village.things.get(one, Village.SOUND) == village.things.get(other, Village.SOUND);
                default:
                    return village.things.get(one, Village.WEIGHT) == village.things.get(other, Village.WEIGHT);
            }
        }

        void gatherOwn(Village village, int who) {
            for (int thing = 0; thing < MOST_THINGS; thing++) {
                pool[thing] = village.shareOf(who, thing);
            }
        }

        /** What is kept for more is worth no less, so with more things sold the mean never falls: the best mean will do. */
        int restPrice() {
            int greatest = NONE;
            for (int thing = 0; thing < MOST_THINGS; thing++) {
                if (pool[thing] > 0) {
                    int price = meanOfSold(kept[thing]);
                    greatest = price >= kept[thing] ? Math.max(greatest, price) : greatest;
                }
            }
            return greatest;
        }

        private int meanOfSold(int price) {
            long shares = 0;
            long together = 0;
            for (int thing = 0; thing < MOST_THINGS; thing++) {
                if (isSold(thing, price)) {
                    shares += pool[thing];
                    together += pool[thing] * worth[thing];
                }
            }
            return shares > 0 ? (int) (together / shares) : NONE;
        }

        private boolean isSold(int thing, int price) {
            return pool[thing] > 0 && kept[thing] <= price;
        }

        int soldAt(int price) {
            int bits = 0;
            for (int thing = 0; thing < MOST_THINGS; thing++) {
                bits |= isSold(thing, price) ? 1 << thing : 0;
            }
            return bits;
        }

        int priceByName(Village village, int who, int month) {
            prepare(village, month);
            gather(village, BY_NAME, who, NONE);
            return restPrice();
        }

        int priceSealed(Village village, int month) {
            prepare(village, month);
            gather(village, SEALED, NONE, NONE);
            return restPrice();
        }

        int lostBy(Village village, int law, int month) {
            prepare(village, month);
            long lost = 0;
            long shares = 0;
            for (int k = 0; k < MOST_PEOPLE; k++) {
                if (beginsPool(village, law, k)) {
                    gather(village, law, k, k);
                    lost += lostOfPool();
                    shares += sharesOfPool();
                }
            }
            return shares > 0 ? (int) (lost * 100 / shares) : NONE;
        }

        /** Whether somebody (by name), a thing (by sound, by weight) is the first of a pool. */
        private static boolean beginsPool(Village village, int law, int k) {
            if (law == SEALED) {
                return k == 0;
            }
            if (law == BY_NAME) {
                return village.people.has(k);
            }
            for (int ahead = 0; ahead < k; ahead++) {
                if (isTogether(village, law, false, ahead, k)) {
                    return false;
                }
            }
            return village.things.has(k);
        }

        private long lostOfPool() {
            int price = restPrice();
            long lost = 0;
            for (int thing = 0; thing < MOST_THINGS; thing++) {
                lost += isSold(thing, price) ? 0 : pool[thing] * (worth[thing] - kept[thing]);
            }
            return lost;
        }

        private long sharesOfPool() {
            long shares = 0;
            for (int thing = 0; thing < MOST_THINGS; thing++) {
                shares += pool[thing];
            }
            return shares;
        }

        int hundredthsAbove(int price) {
            long shares = sharesOfPool();
            long above = 0;
            for (int thing = 0; thing < MOST_THINGS; thing++) {
                above += pool[thing] * Math.max(0, worth[thing] - price);
            }
            return shares > 0 ? (int) (above * 100 / shares) : NONE;
        }

        int priceByWeight(Village village) {
            for (int price = MOST_COINS; price >= 0; price--) {
                if (isWorthItsWeight(village, price)) {
                    return price;
                }
            }
            return NONE;
        }

        private boolean isWorthItsWeight(Village village, int price) {
            boolean isAnySold = false;
            long above = 0;
            for (int thing = 0; thing < village.things.rows && thing < MOST_THINGS; thing++) {
                int asked = price * village.things.get(thing, Village.WEIGHT);
                if (pool[thing] > 0 && kept[thing] <= asked) {
                    isAnySold = true;
                    above += pool[thing] * (worth[thing] - asked);
                }
            }
            return isAnySold && above >= 0;
        }

        int hoursOf(Village village, int who, int month, int k, int what) {
            prepare(village, month);
            gather(village, BY_NAME, who, NONE);
            int hour = 0;
            // at each hour one thing is sold at least
            for (; hour < MOST_THINGS && sharesOfPool() > 0; hour++) {
                int price = restPrice();
                if (hour == k) {
                    return what == 0 ? price : soldAt(price);
                }
                takeSold(price);
            }
            return k == NONE ? hour : NONE;
        }

        private void takeSold(int price) {
            for (int thing = 0; thing < MOST_THINGS; thing++) {
                pool[thing] = isSold(thing, price) ? 0 : pool[thing];
            }
        }

        int bringsBy(Village village, int law, int who, int thing, int month) {
            if (!village.things.has(thing) || thing >= MOST_THINGS) {
                return NONE;
            }
            prepare(village, month);
            gather(village, law, who, thing);
            int price = restPrice();
            return isSold(thing, price) ? price - kept[thing] : 0;
        }
    }

    /** Who of those that fill with less says that it's the best. */
    private static final class Sayings {
        private final int[] worth = new int[MOST_THINGS];
        private final int[] shares = new int[MOST_THINGS];
        int top = NONE;

        void prepare(Village village, int who, int month) {
            top = NONE;
            int greatest = NONE;
            for (int thing = 0; thing < MOST_THINGS; thing++) {
                worth[thing] = village.worthOf(thing, month);
                shares[thing] = village.shareOf(who, thing);
                if (shares[thing] > 0 && worth[thing] > greatest) {
                    top = thing;
                    greatest = worth[thing];
                }
            }
        }

        int honestCost() {
            int least = leastWithout(0);
            return least == NONE || top == NONE ? 0 : worth[top] - worth[least];
        }

        int largestLie(int cost) {
            int liars = 0;
            int largest = NONE;
            for (int k = 0; k < MOST_THINGS; k++) {
                if (isAtRest(liars, cost)) {
                    largest = liars;
                }
                int following = leastWithout(liars);
                if (following == NONE) {
                    break;
                }
                liars |= 1 << following;
            }
            return largest;
        }

        /** Of those with a share that are neither on top nor among these. */
        private int leastWithout(int liars) {
            int least = NONE;
            for (int thing = 0; thing < MOST_THINGS; thing++) {
                boolean isOther = shares[thing] > 0 && thing != top && (liars >> thing & 1) == 0;
                if (isOther && (least == NONE || worth[thing] < worth[least])) {
                    least = thing;
                }
            }
            return least;
        }

        private boolean isAtRest(int liars, int cost) {
            int lie = meanWithTop(liars) - cost;
            for (int thing = 0; thing < MOST_THINGS; thing++) {
                boolean lies = (liars >> thing & 1) == 1;
                if (shares[thing] > 0 && thing != top && lies != (lie > worth[thing])) {
                    return false;
                }
            }
            return true;
        }

        private int meanWithTop(int liars) {
            long all = 0;
            long together = 0;
            for (int thing = 0; thing < MOST_THINGS; thing++) {
                if (thing == top || (liars >> thing & 1) == 1) {
                    all += shares[thing];
                    together += (long) shares[thing] * worth[thing];
                }
            }
            return all > 0 ? (int) (together / all) : 0;
        }
    }

    /** How likely each number of coins is, from box to box. */
    private static final class Chances {
        private final int[] worth = new int[MOST_THINGS];
        private final int[] shares = new int[MOST_THINGS];
        private long[] coinsNow = new long[MOST_COINS + 1];
        private long[] coinsThen = new long[MOST_COINS + 1];

        int ofLasting(Village village, int who, int month, int coins, int price, int n) {
            for (int thing = 0; thing < MOST_THINGS; thing++) {
                worth[thing] = village.worthOf(thing, month);
                shares[thing] = village.shareOf(who, thing);
            }
            Arrays.fill(coinsNow, 0L);
            if (coins >= 0 && coins < coinsNow.length) {
                coinsNow[coins] = CERTAIN;
            }
            for (int box = 0; box < n; box++) {
                buy(price, Math.max(1, village.allSharesOf(who)));
            }
            long all = 0;
            for (int left = 0; left <= MOST_COINS; left++) {
                all += coinsNow[left];
            }
            return (int) (all / (CERTAIN / MILLION));
        }

        private void buy(int price, int allShares) {
            Arrays.fill(coinsThen, 0L);
            for (int coins = Math.max(0, price); coins <= MOST_COINS; coins++) {
                if (coinsNow[coins] > 0) {
                    openBox(coins, coins - price, Math.max(1, allShares));
                }
            }
            long[] former = coinsNow;
            coinsNow = coinsThen;
            coinsThen = former;
        }

        private void openBox(int coins, int paid, int allShares) {
            for (int thing = 0; thing < MOST_THINGS; thing++) {
                int left = Math.min(MOST_COINS, paid + worth[thing]);
                if (shares[thing] > 0 && left >= 0) {
                    coinsThen[left] += coinsNow[coins] * shares[thing] / allShares;
                }
            }
        }
    }
}
