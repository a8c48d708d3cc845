/** By the inch of tide: an island whose cells are sold afresh as the tide goes out. See ../shared/DOC.md. */
public final class TideInches {
    public static final int NONE = -1000000, BAD = -1000001, STATE = -1000002, FULL = -1000003;

    private static final int FOUND = -1000010, FAULTY = -1000100;
    private static final int NULL = 1, PLACE = 2, KIND = 3, SIZE = 4, STORE = 5;
    private static final int CELLS = 15, ALL_CELLS = (1 << CELLS) - 1;
    private static final int BIDDERS = 5, MOST_MONEY = 99, MOST_HEIGHT = 9;
    private static final int LAST_HOUR = 999, FAR = 60;

    private final Rows rows;
    private final Tape tape;
    private final Isle land;
    private final Isle spare;
    private final Isle firstImage;
    private final Isle secondImage;
    private final Acts acts;
    private final Basket basket;
    private final Asks asks;
    private int finding;

    public TideInches() {
        rows = new Rows();
        tape = new Tape();
        land = new Isle();
        spare = new Isle();
        firstImage = new Isle();
        secondImage = new Isle();
        acts = new Acts();
        basket = new Basket();
        asks = new Asks();
        finding = 0;
    }

    // ---- rows

    public int row(int row, int lane, int n) {
        if (!Rows.isRow(row) || lane < 0 || lane > Rows.INTS || n > Rows.ITEMS) {
            return BAD;
        }
        if (n < 0) {
            return found(SIZE);
        }
        rows.make(row, lane, n);
        return unfound(n);
    }

    public int set(int row, int i, int v) {
        if (!Rows.isRow(row)) {
            return BAD;
        }
        if (rows.isMissing(row)) {
            return found(NULL);
        }
        if (!rows.hasPlaces(row, i, 1)) {
            return found(PLACE);
        }
        return unfound(rows.put(row, i, v));
    }

    public int copy(int a, int i, int b, int j, int n) {
        if (!Rows.isRow(a) || !Rows.isRow(b)) {
            return BAD;
        }
        if (rows.isMissing(a) || rows.isMissing(b)) {
            return found(NULL);
        }
        if (rows.lane(a) != rows.lane(b)) {
            return found(STORE);
        }
        if (!rows.hasPlaces(a, i, n) || !rows.hasPlaces(b, j, n)) {
            return found(PLACE);
        }
        rows.move(a, i, b, j, n);
        return unfound(n);
    }

    public int drop(int row) {
        if (!Rows.isRow(row)) {
            return BAD;
        }
        if (rows.isMissing(row)) {
            return found(NULL);
        }
        return unfound(rows.remove(row));
    }

    // ---- what is told

    public int feed(int letter) {
        if (letter < 0 || letter > 255) {
            return BAD;
        }
        return tape.add(letter) ? tape.length() : FULL;
    }

    public int isle() {
        boolean told = tape.readInto(spare);
        tape.empty();
        if (!told) {
            return FAULTY - tape.faultPlace();
        }
        land.become(spare);
        acts.forget();
        return land.bidders();
    }

    public int fault() {
        return tape.faultNumber();
    }

    public int undo() {
        if (acts.kept() < 1) {
            return STATE;
        }
        acts.takeBack(land);
        return acts.kept();
    }

    // ---- what is done

    public int hours(int n) {
        if (!land.isTold()) {
            return STATE;
        }
        if (n < 1 || n > 24) {
            return BAD;
        }
        if (land.hour() + n > LAST_HOUR) {
            return FULL;
        }
        for (int i = 0; i < n; i++) {
            acts.keep(land);
            land.passHour();
        }
        return land.heldCells();
    }

    public int bid(int bidder, int cell) {
        if (!land.hasBidder(bidder) || !isCell(cell)) {
            return BAD;
        }
        if (land.isHeld(cell) || !land.canHave(bidder, cell)) {
            return STATE;
        }
        if (land.purse(bidder) < land.costTo(bidder, cell)) {
            return FULL;
        }
        acts.keep(land);
        land.sell(bidder, cell);
        return land.purse(bidder);
    }

    public int raise(int bidder, int cell) {
        if (!land.hasBidder(bidder) || !isCell(cell)) {
            return BAD;
        }
        if (land.holder(cell) != bidder) {
            return STATE;
        }
        if (land.height(cell) >= MOST_HEIGHT) {
            return FULL;
        }
        acts.keep(land);
        land.putStones(cell);
        return land.height(cell);
    }

    public int give(int from, int to, int cell) {
        if (!land.hasBidder(from) || !land.hasBidder(to) || from == to || !isCell(cell)) {
            return BAD;
        }
        if (land.holder(cell) != from) {
            return STATE;
        }
        acts.keep(land);
        land.handOver(cell, to);
        return land.cellsOf(to);
    }

    public int bidder(int bidder, int what) {
        if (!land.hasBidder(bidder)) {
            return BAD;
        }
        switch (what) {
            case 0: return land.purse(bidder);
            case 1: return land.homeOf(bidder);
            case 2: return land.cellsOf(bidder);
            default: return BAD;
        }
    }

    public int cell(int cell, int what) {
        if (!land.isTold()) {
            return STATE;
        }
        if (!isCell(cell)) {
            return BAD;
        }
        switch (what) {
            case 0: return land.height(cell);
            case 1: return land.isHeld(cell) ? land.holder(cell) : NONE;
            case 2: return land.isDryBehind(0, cell) ? 1 : 0;
            case 3: return Math.max(0, land.levelBehind(0) - land.height(cell));
            default: return BAD;
        }
    }

    public int price(int bidder, int cell) {
        if (!land.hasBidder(bidder) || !isCell(cell)) {
            return BAD;
        }
        return land.canHave(bidder, cell) ? land.costTo(bidder, cell) : NONE;
    }

    // ---- foretold

    public int ahead(int n, int what) {
        if (!land.isTold()) {
            return STATE;
        }
        if (n < 0 || n > FAR) {
            return BAD;
        }
        switch (what) {
            case 0: return land.levelBehind(n);
            case 1: return land.dryBehind(n);
            case 2: return Shore.parts(land.dryBehind(n));
            default: return BAD;
        }
    }

    public int stays(int cell) {
        if (!land.isTold()) {
            return STATE;
        }
        if (!isCell(cell)) {
            return BAD;
        }
        if (!land.isHeld(cell)) {
            return NONE;
        }
        int hours = land.hoursTillLost(land.holder(cell), cell, FAR);
        return hours > FAR ? NONE : hours;
    }

    public int when(int cell, int dry) {
        if (!land.isTold()) {
            return STATE;
        }
        if (!isCell(cell) || !isChoice(dry)) {
            return BAD;
        }
        for (int n = 0; n <= FAR; n++) {
            if (land.isDryBehind(n, cell) == (dry == 1)) {
                return n;
            }
        }
        return NONE;
    }

    public int cuts() {
        return land.isTold() ? Shore.cutting(land.dryBehind(0)) : STATE;
    }

    public int home(int bidder, int cell) {
        if (!land.hasBidder(bidder) || !isCell(cell)) {
            return BAD;
        }
        int hours = land.hoursToHome(bidder, cell);
        return hours < 0 ? NONE : hours;
    }

    public int buy(int bidder, int what) {
        if (!land.hasBidder(bidder) || !isChoice(what)) {
            return BAD;
        }
        basket.fill(land, bidder);
        return what == 0 ? basket.heights() : basket.cells();
    }

    public int harvest(int bidder, int k, int n) {
        if (!land.hasBidder(bidder) || k < 1 || k > CELLS || n < 1 || n > 12) {
            return BAD;
        }
        int cells = land.keptFor(bidder, n);
        return Integer.bitCount(cells) < k ? NONE : land.leastPrices(bidder, cells, k);
    }

    public int raised(int row, int i, int n) {
        if (!land.isTold()) {
            return STATE;
        }
        if (!Rows.isRow(row) || !isNumberOfItems(n)) {
            return BAD;
        }
        if (rows.isMissing(row)) {
            return found(NULL);
        }
        if (!rows.hasPlaces(row, i, n)) {
            return found(PLACE);
        }
        int cells = land.cellsBelow(MOST_HEIGHT);
        for (int hour = 1; hour <= n; hour++) {
            cells = land.raisedSo(cells, hour, rows.item(row, i + hour - 1));
        }
        return unfound(cells);
    }

    public int who(int row, int i, int n) {
        if (!land.isTold()) {
            return STATE;
        }
        if (!Rows.isRow(row) || !isNumberOfItems(n)) {
            return BAD;
        }
        if (rows.isMissing(row)) {
            return found(NULL);
        }
        if (!rows.hasPlaces(row, i, 2 * n)) {
            return found(PLACE);
        }
        if (!areCells(row, i, n, 2)) {
            return BAD;
        }
        int kinds = 0;
        for (int kind = Kinds.BUYER; kind <= Kinds.SEAL; kind++) {
            if (arePricesTo(kind, row, i, n)) {
                kinds |= 1 << kind;
            }
        }
        return unfound(kinds);
    }

    public int ring(int cell, int what) {
        if (!land.isTold()) {
            return STATE;
        }
        if (!isCell(cell) || !isChoice(what)) {
            return BAD;
        }
        int cells = Shore.ringRound(cell);
        return what == 1 ? Integer.bitCount(cells) : land.costOf(Kinds.BUYER, cells & ~land.heldCells());
    }

    public int purses(int bidder, int row, int i, int n, int what) {
        if (!land.hasBidder(bidder) || !Rows.isRow(row) || !isNumberOfItems(n) || !isChoice(what)) {
            return BAD;
        }
        if (rows.isMissing(row)) {
            return found(NULL);
        }
        if (!rows.hasPlaces(row, i, n)) {
            return found(PLACE);
        }
        if (!areCells(row, i, n, 1)) {
            return BAD;
        }
        int spent = 0;
        for (int k = 0; k < n - 1; k++) {
            spent += land.costTo(bidder, rows.item(row, i + k));
        }
        int most = Math.min(MOST_MONEY, spent + land.costTo(bidder, rows.item(row, i + n - 1)) - 1);
        int many = Math.max(0, most - spent + 1);
        if (what == 0) {
            return unfound(many);
        }
        return unfound(many > 0 ? spent : NONE);
    }

    public int drawn(int n, int seed, int what) {
        if (!land.isTold()) {
            return STATE;
        }
        if (n < 0 || n > FAR || seed < 1 || seed > 999999 || !isChoice(what)) {
            return BAD;
        }
        spare.become(land);
        spare.passDrawnHours(n, seed);
        return what == 0 ? Integer.bitCount(spare.heldCells()) : spare.allPurses();
    }

    public int image(int k) {
        if (!isChoice(k)) {
            return BAD;
        }
        if (!land.isTold()) {
            return STATE;
        }
        Isle kept = k == 0 ? firstImage : secondImage;
        kept.become(land);
        return 1;
    }

    public int restore(int k) {
        if (!isChoice(k)) {
            return BAD;
        }
        Isle kept = k == 0 ? firstImage : secondImage;
        if (!kept.isTold()) {
            return STATE;
        }
        land.become(kept);
        acts.forget();
        return 1;
    }

    // ---- asked

    public int kind(int one) {
        return land.hasBidder(one) ? land.kindOf(one) : BAD;
    }

    public int as(int one, int kind) {
        if (!land.hasBidder(one) || kind < Kinds.BIDDER || kind > Kinds.SEAL) {
            return BAD;
        }
        return Kinds.isA(land.kindOf(one), kind) ? unfound(one) : found(KIND);
    }

    public int ask(int one, int what) {
        if (!land.hasBidder(one) || !isChoice(what)) {
            return BAD;
        }
        asks.turnTo(land, one);
        return what == 0 ? asks.sizeAsked() : asks.markAsked();
    }

    public int trace(int i) {
        return i >= 0 && i < asks.traced() ? asks.tracedBody(i) : NONE;
    }

    public int count(int what) {
        switch (what) {
            case 0: return rows.there();
            case 1: return land.bidders();
            case 2: return land.levelBehind(0);
            case 3: return land.priceTold();
            case 4: return land.hour();
            case 5: return land.heldCells();
            case 6: return acts.kept();
            case 7: return tape.length();
            default: return BAD;
        }
    }

    public int status() {
        return finding;
    }

    // ---- what the calls share

    private int found(int number) {
        finding = number;
        return FOUND - number;
    }

    private int unfound(int answer) {
        finding = 0;
        return answer;
    }

    private static boolean isCell(int cell) {
        return cell >= 0 && cell < CELLS;
    }

    private static boolean isChoice(int what) {
        return what == 0 || what == 1;
    }

    private static boolean isNumberOfItems(int n) {
        return n >= 1 && n <= 12;
    }

    private boolean areCells(int row, int i, int n, int step) {
        for (int k = 0; k < n; k++) {
            if (!isCell(rows.item(row, i + step * k))) {
                return false;
            }
        }
        return true;
    }

    private boolean arePricesTo(int kind, int row, int i, int n) {
        for (int k = 0; k < n; k++) {
            int cell = rows.item(row, i + 2 * k);
            if (land.cost(kind, cell) != rows.item(row, i + 2 * k + 1)) {
                return false;
            }
        }
        return true;
    }

    /** What the kinds of bidders pay, what they take, and when they lose it. */
    static final class Kinds {
        static final int BIDDER = 0, BUYER = 1, ABBEY = 2, SLEEPER = 3, GOAT = 4, SEAL = 5;
        static final int NO_KIND = -1;

        private Kinds() {
        }

        static int told(int letter) {
            switch (letter) {
                case 'b': return BUYER;
                case 'a': return ABBEY;
                case 'z': return SLEEPER;
                case 'g': return GOAT;
                case 'l': return SEAL;
                default: return NO_KIND;
            }
        }

        static int nextAbove(int kind) {
            switch (kind) {
                case BUYER: return BIDDER;
                case ABBEY: return BUYER;
                case SLEEPER: return BUYER;
                case GOAT: return BIDDER;
                case SEAL: return GOAT;
                default: return NO_KIND;
            }
        }

        static boolean isA(int kind, int other) {
            int one = kind;
            for (int steps = 0; steps <= SEAL && one != NO_KIND; steps++) {
                if (one == other) {
                    return true;
                }
                one = nextAbove(one);
            }
            return false;
        }

        static int cost(int kind, int price, int height) {
            switch (kind) {
                case ABBEY: return price * height / 2;
                case SLEEPER: return price * height + 1;
                case GOAT: return price;
                case SEAL: return 0;
                default: return price * height;
            }
        }

        static boolean takes(int kind, boolean dry) {
            return dry != (kind == SEAL);
        }

        static boolean loses(int kind, int level, int height) {
            switch (kind) {
                case SEAL: return height > level;
                case SLEEPER: return level - height >= 2;
                default: return height <= level;
            }
        }
    }

    /** Sets of cells as bits: which are beside each other. */
    static final class Shore {
        private static final int WEST = 0b00001_00001_00001, EAST = 0b10000_10000_10000;

        private Shore() {
        }

        static int beside(int cells) {
            int eastward = (cells & ~EAST) << 1;
            int westward = (cells & ~WEST) >> 1;
            return (eastward | westward | (cells << 5) | (cells >> 5)) & ALL_CELLS;
        }

        static int parts(int cells) {
            int rest = cells & ALL_CELLS;
            int parts = 0;
            for (int i = 0; i < CELLS && rest != 0; i++) {
                rest &= ~partFrom(rest & -rest, rest);
                parts++;
            }
            return parts;
        }

        /** Fifteen spreadings reach the end of the longest path there can be. */
        static int partFrom(int start, int within) {
            int part = start;
            for (int i = 0; i < CELLS; i++) {
                int wider = part | (beside(part) & within);
                if (wider == part) {
                    return part;
                }
                part = wider;
            }
            return part;
        }

        static int cutting(int cells) {
            int parts = parts(cells);
            int cuts = 0;
            for (int cell = 0; cell < CELLS; cell++) {
                if (parts(cells & ~(1 << cell)) > parts) {
                    cuts |= 1 << cell;
                }
            }
            return cuts;
        }

        static int ringRound(int cell) {
            int near = beside(1 << cell);
            int ring = near;
            for (int other = 0; other < CELLS; other++) {
                if (Integer.bitCount(beside(1 << other) & near) >= 2) {
                    ring |= 1 << other;
                }
            }
            return ring & ~(1 << cell);
        }
    }

    /** The rows, all in one array that is made once and used again. */
    static final class Rows {
        static final int ROWS = 8, ITEMS = 40;
        static final int BYTES = 0, SHORTS = 1, INTS = 2;
        private static final int MISSING = -1;

        private final int[] lanes = new int[ROWS];
        private final int[] lengths = new int[ROWS];
        private final int[] items = new int[ROWS * ITEMS];

        Rows() {
            for (int row = 0; row < ROWS; row++) {
                lanes[row] = MISSING;
            }
        }

        static boolean isRow(int row) {
            return row >= 0 && row < ROWS;
        }

        boolean isMissing(int row) {
            return lanes[row] == MISSING;
        }

        int lane(int row) {
            return lanes[row];
        }

        /** By subtraction, since i + n may be more than an int holds. */
        boolean hasPlaces(int row, int i, int n) {
            return i >= 0 && n >= 0 && n <= lengths[row] && i <= lengths[row] - n;
        }

        void make(int row, int lane, int n) {
            lanes[row] = lane;
            lengths[row] = n;
            for (int i = 0; i < n; i++) {
                items[row * ITEMS + i] = 0;
            }
        }

        int item(int row, int i) {
            return items[row * ITEMS + i];
        }

        int put(int row, int i, int v) {
            int kept = v;
            if (lanes[row] == BYTES) {
                kept = (byte) v;
            } else if (lanes[row] == SHORTS) {
                kept = (short) v;
            }
            items[row * ITEMS + i] = kept;
            return kept;
        }

        void move(int a, int i, int b, int j, int n) {
            System.arraycopy(items, a * ITEMS + i, items, b * ITEMS + j, n);
        }

        int remove(int row) {
            int had = lengths[row];
            lanes[row] = MISSING;
            lengths[row] = 0;
            return had;
        }

        int there() {
            int many = 0;
            for (int row = 0; row < ROWS; row++) {
                if (!isMissing(row)) {
                    many++;
                }
            }
            return many;
        }
    }

    /** The tape, and how an isle is read from it. */
    static final class Tape {
        private static final int LONGEST = 100;
        private static final int MISPLACED = 1, UNTOLD = 2, CROWDED = 3;

        private final int[] bytes = new int[LONGEST];
        private int length;
        private int at;
        private int number;
        private int faultNumber;

        int length() {
            return length;
        }

        int faultNumber() {
            return faultNumber;
        }

        /** The reader stands still at the token that it fails by. */
        int faultPlace() {
            return at;
        }

        boolean add(int letter) {
            if (length >= LONGEST) {
                return false;
            }
            bytes[length] = letter;
            length++;
            return true;
        }

        void empty() {
            length = 0;
        }

        boolean readInto(Isle isle) {
            at = 0;
            isle.begin();
            return readLaw(isle) && readHeights(isle) && readBidders(isle);
        }

        private boolean readLaw(Isle isle) {
            if (!readSign('i') || !readNumber(0, 9)) {
                return false;
            }
            int low = number;
            if (!readSign(',') || !readNumber(low, 9)) {
                return false;
            }
            int high = number;
            if (!readSign(',') || !readNumber(1, 9)) {
                return false;
            }
            isle.tellLaw(low, high, number);
            return readSign(';');
        }

        private boolean readHeights(Isle isle) {
            if (!readSign('h')) {
                return false;
            }
            for (int cell = 0; cell < CELLS; cell++) {
                int letter = next();
                if (letter < 'a' || letter > 'j') {
                    return fails(MISPLACED);
                }
                isle.tellHeight(cell, letter - 'a');
                at++;
            }
            return readSign(';');
        }

        private boolean readBidders(Isle isle) {
            if (!readBidder(isle)) {
                return false;
            }
            for (int i = 0; i < LONGEST && at < length; i++) {
                if (!readBidder(isle)) {
                    return false;
                }
            }
            return true;
        }

        private boolean readBidder(Isle isle) {
            int kind = Kinds.told(next());
            if (kind == Kinds.NO_KIND) {
                return fails(MISPLACED);
            }
            if (isle.bidders() >= BIDDERS) {
                return fails(CROWDED);
            }
            at++;
            if (!readNumber(0, MOST_MONEY)) {
                return false;
            }
            int purse = number;
            if (!readSign(',') || !readNumber(0, CELLS - 1)) {
                return false;
            }
            isle.tellBidder(kind, purse, number);
            return readSign(';');
        }

        private int next() {
            return at < length ? bytes[at] : -1;
        }

        private boolean readSign(int sign) {
            if (next() != sign) {
                return fails(MISPLACED);
            }
            at++;
            return true;
        }

        private boolean readNumber(int least, int most) {
            int figures = 0;
            int value = 0;
            while (at + figures < length && isFigure(bytes[at + figures])) {
                value = Math.min(1000, 10 * value + bytes[at + figures] - '0');
                figures++;
            }
            if (figures < 1 || figures > 2) {
                return fails(MISPLACED);
            }
            if (value < least || value > most) {
                return fails(UNTOLD);
            }
            number = value;
            at += figures;
            return true;
        }

        private static boolean isFigure(int letter) {
            return letter >= '0' && letter <= '9';
        }

        private boolean fails(int fault) {
            faultNumber = fault;
            return false;
        }
    }

    /** An isle with its bidders at an hour. */
    static final class Isle {
        private static final int NOBODY = -1;
        static final int SAVED = 1 + 2 * CELLS + BIDDERS;

        private boolean told;
        private int low;
        private int high;
        private int price;
        private int hour;
        private int bidders;
        private final int[] heights = new int[CELLS];
        private final int[] holders = new int[CELLS];
        private final int[] kinds = new int[BIDDERS];
        private final int[] purses = new int[BIDDERS];
        private final int[] homes = new int[BIDDERS];

        Isle() {
            leaveAll();
        }

        private void leaveAll() {
            for (int cell = 0; cell < CELLS; cell++) {
                holders[cell] = NOBODY;
            }
        }

        void begin() {
            told = false;
            hour = 0;
            bidders = 0;
            leaveAll();
        }

        void tellLaw(int lowTold, int highTold, int priceTold) {
            low = lowTold;
            high = highTold;
            price = priceTold;
            told = true;
        }

        void tellHeight(int cell, int height) {
            heights[cell] = height;
        }

        void tellBidder(int kind, int purse, int home) {
            if (bidders < BIDDERS) {
                kinds[bidders] = kind;
                purses[bidders] = purse;
                homes[bidders] = home;
                bidders++;
            }
        }

        void become(Isle other) {
            told = other.told;
            low = other.low;
            high = other.high;
            price = other.price;
            hour = other.hour;
            bidders = other.bidders;
            System.arraycopy(other.heights, 0, heights, 0, CELLS);
            System.arraycopy(other.holders, 0, holders, 0, CELLS);
            System.arraycopy(other.kinds, 0, kinds, 0, BIDDERS);
            System.arraycopy(other.purses, 0, purses, 0, BIDDERS);
            System.arraycopy(other.homes, 0, homes, 0, BIDDERS);
        }

        /** Only what an act can change is saved. */
        void saveTo(int[] saved, int from) {
            saved[from] = hour;
            System.arraycopy(heights, 0, saved, from + 1, CELLS);
            System.arraycopy(holders, 0, saved, from + 1 + CELLS, CELLS);
            System.arraycopy(purses, 0, saved, from + 1 + 2 * CELLS, BIDDERS);
        }

        void takeFrom(int[] saved, int from) {
            hour = saved[from];
            System.arraycopy(saved, from + 1, heights, 0, CELLS);
            System.arraycopy(saved, from + 1 + CELLS, holders, 0, CELLS);
            System.arraycopy(saved, from + 1 + 2 * CELLS, purses, 0, BIDDERS);
        }

        boolean isTold() {
            return told;
        }

        int hour() {
            return hour;
        }

        int priceTold() {
            return price;
        }

        int bidders() {
            return bidders;
        }

        boolean hasBidder(int bidder) {
            return bidder >= 0 && bidder < bidders;
        }

        int kindOf(int bidder) {
            return kinds[bidder];
        }

        int purse(int bidder) {
            return purses[bidder];
        }

        int homeOf(int bidder) {
            return homes[bidder];
        }

        int height(int cell) {
            return heights[cell];
        }

        int holder(int cell) {
            return holders[cell];
        }

        boolean isHeld(int cell) {
            return holders[cell] != NOBODY;
        }

        int cellsOf(int bidder) {
            int cells = 0;
            for (int cell = 0; cell < CELLS; cell++) {
                if (holders[cell] == bidder) {
                    cells |= 1 << cell;
                }
            }
            return cells;
        }

        int heldCells() {
            return ALL_CELLS & ~cellsOf(NOBODY);
        }

        int allPurses() {
            int sum = 0;
            for (int bidder = 0; bidder < bidders; bidder++) {
                sum += purses[bidder];
            }
            return sum;
        }

        int levelBehind(int n) {
            int left = (hour + n) % 12;
            int sixths = left <= 6 ? left : 12 - left;
            return low + (high - low) * sixths / 6;
        }

        boolean isDryBehind(int n, int cell) {
            return heights[cell] > levelBehind(n);
        }

        int dryBehind(int n) {
            return ALL_CELLS & ~cellsBelow(levelBehind(n) + 1);
        }

        int cellsBelow(int height) {
            int cells = 0;
            for (int cell = 0; cell < CELLS; cell++) {
                if (heights[cell] < height) {
                    cells |= 1 << cell;
                }
            }
            return cells;
        }

        /** Which of these, being 1 higher, make that dry behind n hours. */
        int raisedSo(int cells, int n, int dry) {
            int level = levelBehind(n);
            int now = dryBehind(n);
            int so = 0;
            for (int cell = 0; cell < CELLS; cell++) {
                int bit = 1 << cell;
                int then = heights[cell] + 1 > level ? now | bit : now & ~bit;
                if ((cells & bit) != 0 && then == dry) {
                    so |= bit;
                }
            }
            return so;
        }

        int cost(int kind, int cell) {
            return Kinds.cost(kind, price, heights[cell]);
        }

        int costTo(int bidder, int cell) {
            return cost(kinds[bidder], cell);
        }

        int costOf(int kind, int cells) {
            int sum = 0;
            for (int cell = 0; cell < CELLS; cell++) {
                if ((cells & (1 << cell)) != 0) {
                    sum += cost(kind, cell);
                }
            }
            return sum;
        }

        boolean canHave(int bidder, int cell) {
            return Kinds.takes(kinds[bidder], isDryBehind(0, cell));
        }

        void sell(int bidder, int cell) {
            purses[bidder] -= costTo(bidder, cell);
            holders[cell] = bidder;
        }

        void putStones(int cell) {
            heights[cell]++;
        }

        void handOver(int cell, int to) {
            holders[cell] = to;
        }

        void passHour() {
            hour++;
            int level = levelBehind(0);
            for (int cell = 0; cell < CELLS; cell++) {
                if (isHeld(cell) && Kinds.loses(kinds[holders[cell]], level, heights[cell])) {
                    holders[cell] = NOBODY;
                }
            }
        }

        void passDrawnHours(int n, int seed) {
            long x = seed;
            for (int i = 0; i < n && bidders > 0; i++) {
                x = x * 16807 % 2147483647;
                int bidder = (int) (x % bidders);
                int cell = (int) (x % CELLS);
                if (!isHeld(cell) && canHave(bidder, cell) && costTo(bidder, cell) <= purses[bidder]) {
                    sell(bidder, cell);
                }
                passHour();
            }
        }

        /** Behind how many hours a bidder would lose a cell; limit + 1 if not by then. */
        int hoursTillLost(int bidder, int cell, int limit) {
            for (int n = 1; n <= limit; n++) {
                if (Kinds.loses(kinds[bidder], levelBehind(n), heights[cell])) {
                    return n;
                }
            }
            return limit + 1;
        }

        int freeFor(int bidder) {
            int cells = 0;
            for (int cell = 0; cell < CELLS; cell++) {
                if (!isHeld(cell) && canHave(bidder, cell)) {
                    cells |= 1 << cell;
                }
            }
            return cells;
        }

        int keptFor(int bidder, int n) {
            int cells = freeFor(bidder);
            for (int cell = 0; cell < CELLS; cell++) {
                if (hoursTillLost(bidder, cell, n) <= n) {
                    cells &= ~(1 << cell);
                }
            }
            return cells;
        }

        int leastPrices(int bidder, int cells, int k) {
            int rest = cells;
            int sum = 0;
            for (int i = 0; i < k && rest != 0; i++) {
                int cheapest = cheapestOf(bidder, rest);
                sum += costTo(bidder, cheapest);
                rest &= ~(1 << cheapest);
            }
            return sum;
        }

        private int cheapestOf(int bidder, int cells) {
            int cheapest = 0;
            for (int cell = 0; cell < CELLS; cell++) {
                boolean first = (cells & (1 << cheapest)) == 0;
                if ((cells & (1 << cell)) != 0 && (first || costTo(bidder, cell) < costTo(bidder, cheapest))) {
                    cheapest = cell;
                }
            }
            return cheapest;
        }

        /** By all cells it can be in behind each hour; -1 if it does not come home. */
        int hoursToHome(int bidder, int cell) {
            int home = 1 << homes[bidder];
            int open = (ALL_CELLS & ~heldCells()) | cellsOf(bidder);
            int here = 1 << cell;
            for (int n = 0; n <= 24; n++) {
                if ((here & home) != 0) {
                    return n;
                }
                here = (here | Shore.beside(here)) & open & dryBehind(n + 1);
            }
            return -1;
        }
    }

    /** The isle as it was ahead of each act that can be undone, the oldest written over. */
    static final class Acts {
        private static final int MOST = 24;

        private final int[] saved = new int[MOST * Isle.SAVED];
        private int next;
        private int kept;

        int kept() {
            return kept;
        }

        void forget() {
            kept = 0;
        }

        void keep(Isle isle) {
            isle.saveTo(saved, next * Isle.SAVED);
            next = (next + 1) % MOST;
            kept = Math.min(MOST, kept + 1);
        }

        void takeBack(Isle isle) {
            next = (next + MOST - 1) % MOST;
            isle.takeFrom(saved, next * Isle.SAVED);
            kept--;
        }
    }

    /** What to buy for most inches, by the most that each sum of prices brings. */
    static final class Basket {
        private final int[] most = new int[MOST_MONEY + 1];
        private final int[] which = new int[MOST_MONEY + 1];
        private int best;

        int heights() {
            return most[best];
        }

        int cells() {
            return which[best];
        }

        void fill(Isle isle, int bidder) {
            int purse = Math.max(0, Math.min(MOST_MONEY, isle.purse(bidder)));
            for (int sum = 0; sum <= MOST_MONEY; sum++) {
                most[sum] = sum == 0 ? 0 : -1;
                which[sum] = 0;
            }
            int free = isle.freeFor(bidder);
            int dearest = 0;
            for (int cell = 0; cell < CELLS; cell++) {
                if ((free & (1 << cell)) != 0) {
                    int cost = isle.costTo(bidder, cell);
                    dearest = Math.min(purse, dearest + cost);
                    offer(1 << cell, cost, isle.height(cell), dearest);
                }
            }
            best = 0;
            for (int sum = 1; sum <= dearest; sum++) {
                if (most[sum] > most[best]) {
                    best = sum;
                }
            }
        }

        /** Of as much height the set without this cell stays: cells come upwards, so it has the lesser bits. */
        private void offer(int bit, int cost, int height, int dearest) {
            for (int sum = dearest; sum >= cost && cost >= 0; sum--) {
                int rest = sum - cost;
                if (most[rest] >= 0 && most[rest] + height > most[sum]) {
                    most[sum] = most[rest] + height;
                    which[sum] = which[rest] | bit;
                }
            }
        }
    }

    /** What bidders are asked, and the bodies that have begun to answer. */
    static final class Asks {
        private static final int MOST = 16;

        private final int[] bodies = new int[MOST];
        private int traced;
        private int number;
        private int kind;
        private int purse;
        private int home;

        int traced() {
            return traced;
        }

        int tracedBody(int i) {
            return bodies[i];
        }

        void turnTo(Isle isle, int bidder) {
            traced = 0;
            number = bidder;
            kind = isle.kindOf(bidder);
            purse = isle.purse(bidder);
            home = isle.homeOf(bidder);
        }

        /** The bodies that no other leads on to stand in the choice itself, to keep the calls shallow. */
        int sizeAsked() {
            switch (kind) {
                case Kinds.ABBEY:
                    begin(12);
                    return -sizeOfBuyers();
                case Kinds.GOAT:
                case Kinds.SEAL:
                    return sizeAskedOfGoats();
                default:
                    return sizeOfBuyers();
            }
        }

        int markAsked() {
            return Kinds.isA(kind, Kinds.GOAT) ? markOfGoats() : markAskedOfBuyers();
        }

        /** Apart from sizeAsked, so that no ask can come back to itself by way of a mark. */
        private int sizeAskedOfGoats() {
            if (kind == Kinds.SEAL) {
                begin(14);
                return 2 * sizeOfGoats();
            }
            return sizeOfGoats();
        }

        private int markAskedOfBuyers() {
            switch (kind) {
                case Kinds.ABBEY:
                    begin(24);
                    return 2 * markOfBuyers();
                case Kinds.SLEEPER:
                    begin(22);
                    return markOfBuyers() - 1000;
                default:
                    return markOfBuyers();
            }
        }

        private int sizeLent() {
            begin(10);
            return purse;
        }

        private int sizeOfBuyers() {
            begin(11);
            int lent = sizeLent();
            return lent + markAskedOfBuyers();
        }

        private int sizeOfGoats() {
            begin(13);
            return sizeLent() - 100;
        }

        private int markLent() {
            begin(20);
            return number;
        }

        private int markOfBuyers() {
            begin(21);
            return markLent() + home;
        }

        private int markOfGoats() {
            begin(23);
            int lent = markLent();
            return lent - sizeAskedOfGoats();
        }

        private void begin(int body) {
            if (traced < MOST) {
                bodies[traced] = body;
                traced++;
            }
        }
    }
}
