import java.util.Arrays;

/** Waters of a bay that lend one another inches of depth; ../shared/DOC.md says what each call must answer. */
public final class TideDebts {
    public static final int NONE = -1000000, BAD = -1000001, STATE = -1000002, FULL = -1000003;

    private static final int FINDINGS = -1000010;
    private static final int MISSING = 1, NO_PLACE = 2, NO_SUCH_KIND = 3, NO_SIZE = 4, TWO_LANES = 5;
    private static final int FAULTS = -1000100;

    private static final int MOST_ROWS = 8, MOST_ITEMS = 40, LANES = 3;
    private static final int MOST_BYTES = 400;
    private static final int MOST_WATERS = 6, MOST_LEVEL = 40, MOST_DEPTH = 200;
    private static final int ROUND = 12;
    private static final int MOST_HOURS = 999, MOST_HOURS_A_CALL = 24;
    private static final int MOST_LOAN = 999, MOST_DEBT = 9999;
    private static final int MOST_SEED = 999999;
    private static final int MOST_AHEAD = 48, MOST_OUT = 24;
    private static final int MOST_DRAUGHT = 999, MOST_WAIT = 24;
    private static final int MOST_ACTS = 24, IMAGES = 2;

    private static final int WATER = 0, COVE = 1, LAGOON = 2, POOL = 3, DYKE = 4, WELL = 5, KINDS = 6;

    private final Rows rows = new Rows();
    private final Tape tape = new Tape();
    private final Chart draft = new Chart();
    private final Bay now = new Bay();
    private final Bay[] images = new Bay[IMAGES];
    private final Past past = new Past();
    private final Ledger foretold = new Ledger();
    private final Netting netting = new Netting();
    private final Asker asker = new Asker();
    private int latestFault;
    private int latestFinding;

    public TideDebts() {
        for (int k = 0; k < IMAGES; k++) {
            images[k] = new Bay();
        }
    }

    // ---- rows

    public int row(int row, int lane, int n) {
        if (!isRow(row) || lane < 0 || lane >= LANES || n > MOST_ITEMS) {
            return BAD;
        }
        if (n < 0) {
            return found(NO_SIZE);
        }
        rows.make(row, lane, n);
        return fine(n);
    }

    public int set(int row, int i, int v) {
        if (!isRow(row)) {
            return BAD;
        }
        if (rows.isMissing(row)) {
            return found(MISSING);
        }
        if (!rows.hasPlaces(row, i, 1)) {
            return found(NO_PLACE);
        }
        return fine(rows.put(row, i, v));
    }

    public int copy(int a, int i, int b, int j, int n) {
        if (!isRow(a) || !isRow(b)) {
            return BAD;
        }
        if (rows.isMissing(a) || rows.isMissing(b)) {
            return found(MISSING);
        }
        if (rows.lanes[a] != rows.lanes[b]) {
            return found(TWO_LANES);
        }
        if (!rows.hasPlaces(a, i, n) || !rows.hasPlaces(b, j, n)) {
            return found(NO_PLACE);
        }
        System.arraycopy(rows.items[a], i, rows.items[b], j, n);
        return fine(n);
    }

    public int drop(int row) {
        if (!isRow(row)) {
            return BAD;
        }
        if (rows.isMissing(row)) {
            return found(MISSING);
        }
        return fine(rows.remove(row));
    }

    // ---- bays, acts

    public int feed(long w, int n) {
        if (n < 1 || n > 8) {
            return BAD;
        }
        if (tape.length + n > MOST_BYTES) {
            return FULL;
        }
        tape.write(w, n);
        return tape.length;
    }

    public int bay() {
        int flaw = tape.read(draft);
        if (flaw != 0) {
            latestFault = flaw;
            return FAULTS - tape.start;
        }
        now.open(draft);
        past.forget();
        return now.chart.waters;
    }

    public int fault() {
        return latestFault;
    }

    public int hours(int n) {
        if (!now.stands) {
            return STATE;
        }
        if (n < 1 || n > MOST_HOURS_A_CALL) {
            return BAD;
        }
        if (now.ledger.hour + n > MOST_HOURS) {
            return FULL;
        }
        int rise = 0;
        for (int h = 0; h < n; h++) {
            past.keep(now.ledger);
            rise = now.ledger.passHour(now.chart);
        }
        return rise;
    }

    public int lend(int from, int to, int n) {
        if (!areTwoWaters(from, to) || n < 1 || n > MOST_LOAN) {
            return BAD;
        }
        Ledger ledger = now.ledger;
        if (ledger.depths[from] < n) {
            return STATE;
        }
        if (ledger.debt(to, from) + n > MOST_DEBT) {
            return FULL;
        }
        past.keep(ledger);
        ledger.move(from, to, n);
        return ledger.addDebt(to, from, n);
    }

    public int pay(int from, int to, int n) {
        if (!areTwoWaters(from, to) || n < 1 || n > MOST_DEBT) {
            return BAD;
        }
        Ledger ledger = now.ledger;
        if (ledger.debt(from, to) < n || ledger.depths[from] < n) {
            return STATE;
        }
        past.keep(ledger);
        ledger.move(from, to, n);
        return ledger.addDebt(from, to, -n);
    }

    public int storm(int seed) {
        if (!now.stands) {
            return STATE;
        }
        if (seed < 1 || seed > MOST_SEED) {
            return BAD;
        }
        past.keep(now.ledger);
        return now.ledger.advance(seed, now.chart.waters);
    }

    public int settle() {
        if (!now.stands || !netting.canBe(now.ledger, now.chart.waters)) {
            return STATE;
        }
        netting.workOut(now.ledger, now.chart.waters);
        past.keep(now.ledger);
        return netting.moveAll(now.ledger);
    }

    public int undo() {
        if (past.kept < 1) {
            return STATE;
        }
        past.giveBack(now.ledger);
        return past.kept;
    }

    public int water(int water, int what) {
        if (!isWater(water)) {
            return BAD;
        }
        switch (what) {
            case 0:
                return now.ledger.depths[water];
            case 1:
                return now.ledger.arrears[water];
            case 2:
                return now.chart.sills[water];
            case 3:
                return now.ledger.balance(water);
            default:
                return BAD;
        }
    }

    public int owes(int from, int to) {
        return areTwoWaters(from, to) ? now.ledger.debt(from, to) : BAD;
    }

    // ---- foretold

    public int ahead(int water, int n, int what) {
        if (!isWater(water) || n < 0 || n > MOST_AHEAD || what < 0 || what > 2) {
            return BAD;
        }
        foretold.takeFrom(now.ledger);
        foretold.passHours(now.chart, n);
        if (what == 2) {
            return foretold.owedBy(water);
        }
        return what == 1 ? foretold.arrears[water] : foretold.depths[water];
    }

    public int sail(int water, int d, int m, int what) {
        if (!isWater(water) || d < 0 || d > MOST_DRAUGHT || m < 1 || m > MOST_WAIT || what < 0 || what > 1) {
            return BAD;
        }
        int out = firstDeepHour(water, d, 0, MOST_OUT);
        if (what == 0 || out == NONE) {
            return out;
        }
        return firstDeepHour(water, d, out + m, MOST_AHEAD);
    }

    public int net(int k, int what) {
        if (!now.stands) {
            return STATE;
        }
        if (k < -2 || what < 0 || what > 2) {
            return BAD;
        }
        if (k == -2) {
            return netting.canBe(now.ledger, now.chart.waters) ? 1 : 0;
        }
        netting.workOut(now.ledger, now.chart.waters);
        return k == -1 ? netting.gifts : netting.tell(k, what);
    }

    public int least(int a, int b, int d, int n) {
        if (!areTwoWaters(a, b) || d < 0 || d > MOST_DRAUGHT || n < 0 || n > MOST_WAIT) {
            return BAD;
        }
        int enough = now.ledger.depths[b];
        if (depthByLoan(a, enough, n) < d) {
            return NONE;
        }
        // An inch more now is never an inch less later, so halving finds the least loan.
        int low = 0;
        for (int halving = 0; halving < 32 && low < enough; halving++) {
            int middle = low + (enough - low) / 2;
            if (depthByLoan(a, middle, n) >= d) {
                enough = middle;
            } else {
                low = middle + 1;
            }
        }
        return enough;
    }

    public int run() {
        if (!now.stands) {
            return STATE;
        }
        foretold.takeFrom(now.ledger);
        return foretold.payAll(now.chart.waters);
    }

    public int frauds(int row, int i) {
        if (!now.stands) {
            return STATE;
        }
        if (!isRow(row)) {
            return BAD;
        }
        if (rows.isMissing(row)) {
            return found(MISSING);
        }
        if (!rows.hasPlaces(row, i, now.chart.waters)) {
            return found(NO_PLACE);
        }
        if (rows.hasBelowZero(row, i, now.chart.waters)) {
            return BAD;
        }
        return fine(watersToldWrong(rows.items[row], i));
    }

    public int image(int k) {
        if (k < 0 || k >= IMAGES) {
            return BAD;
        }
        if (!now.stands) {
            return STATE;
        }
        images[k].takeFrom(now);
        return 1;
    }

    public int restore(int k) {
        if (k < 0 || k >= IMAGES) {
            return BAD;
        }
        if (!images[k].stands) {
            return STATE;
        }
        now.takeFrom(images[k]);
        past.forget();
        return 1;
    }

    // ---- asked

    public int kind(int water) {
        return isWater(water) ? now.chart.kinds[water] : BAD;
    }

    public int as(int water, int kind) {
        if (!isWater(water) || kind < 0 || kind >= KINDS) {
            return BAD;
        }
        return Chart.isOne(now.chart.kinds[water], kind) ? fine(water) : found(NO_SUCH_KIND);
    }

    public int ask(int water, int what) {
        if (!isWater(water) || what < 0 || what > 1) {
            return BAD;
        }
        asker.traced = 0;
        return what == 0 ? asker.size(now, water, 0) : asker.mark(now, water, 0);
    }

    public int trace(int i) {
        return i >= 0 && i < asker.traced ? asker.numbers[i] : NONE;
    }

    public int count(int what) {
        switch (what) {
            case 0:
                return rows.present();
            case 1:
                return now.chart.waters;
            case 2:
                return now.ledger.hour;
            case 3:
                return now.ledger.depthInAll();
            case 4:
                return past.kept;
            case 5:
                return now.ledger.debtsAboveNone();
            case 6:
                return tape.length;
            default:
                return BAD;
        }
    }

    public int status() {
        return latestFinding;
    }

    private static boolean isRow(int row) {
        return row >= 0 && row < MOST_ROWS;
    }

    private boolean isWater(int water) {
        return water >= 0 && water < now.chart.waters;
    }

    private boolean areTwoWaters(int one, int other) {
        return isWater(one) && isWater(other) && one != other;
    }

    private int found(int finding) {
        latestFinding = finding;
        return FINDINGS - finding;
    }

    private int fine(int answer) {
        latestFinding = 0;
        return answer;
    }

    private int firstDeepHour(int water, int draught, int first, int last) {
        foretold.takeFrom(now.ledger);
        foretold.passHours(now.chart, first);
        for (int h = first; h <= last; h++) {
            if (foretold.depths[water] >= draught) {
                return h;
            }
            foretold.passHour(now.chart);
        }
        return NONE;
    }

    private int depthByLoan(int water, int loan, int hoursOn) {
        foretold.takeFrom(now.ledger);
        foretold.depths[water] += loan;
        foretold.passHours(now.chart, hoursOn);
        return foretold.depths[water];
    }

    private int watersToldWrong(int[] told, int first) {
        foretold.takeFrom(now.ledger);
        foretold.passHour(now.chart);
        int wrong = 0;
        for (int w = 0; w < now.chart.waters; w++) {
            if (told[first + w] != foretold.depths[w]) {
                wrong |= 1 << w;
            }
        }
        return wrong;
    }

    /** All ROWS are made once, at their full length: a call makes nothing. */
    private static final class Rows {
        private static final int NO_LANE = -1, BYTES = 0, SHORTS = 1;

        final int[][] items = new int[MOST_ROWS][MOST_ITEMS];
        final int[] lanes = new int[MOST_ROWS];
        final int[] sizes = new int[MOST_ROWS];

        Rows() {
            Arrays.fill(lanes, NO_LANE);
        }

        boolean isMissing(int at) {
            return lanes[at] == NO_LANE;
        }

        void make(int at, int lane, int n) {
            lanes[at] = lane;
            sizes[at] = n;
            Arrays.fill(items[at], 0);
        }

        int remove(int at) {
            lanes[at] = NO_LANE;
            return sizes[at];
        }

        boolean hasPlaces(int at, int first, int n) {
            // Not first + n, which can wrap around.
            return first >= 0 && n >= 0 && n <= sizes[at] && first <= sizes[at] - n;
        }

        int put(int at, int i, int v) {
            int kept = v;
            if (lanes[at] == BYTES) {
                kept = (byte) v;
            } else if (lanes[at] == SHORTS) {
                kept = (short) v;
            }
            items[at][i] = kept;
            return kept;
        }

        boolean hasBelowZero(int at, int first, int n) {
            for (int i = first; i < first + n; i++) {
                if (items[at][i] < 0) {
                    return true;
                }
            }
            return false;
        }

        int present() {
            int n = 0;
            for (int at = 0; at < MOST_ROWS; at++) {
                if (!isMissing(at)) {
                    n++;
                }
            }
            return n;
        }
    }

    /** Reads itself token by token; at the first fault it stays where it is, so that start tells the place. */
    private static final class Tape {
        private static final int END = 0, NAME = 1, NUMBER = 2, SIGN = 3, STRANGE = 4;
        private static final int CANNOT_STAND = 1, NOT_AS_TOLD = 2, NO_ROOM = 3;
        private static final int MOST_FIGURES = 3;

        final byte[] bytes = new byte[MOST_BYTES];
        int length;
        int token;
        int start;
        int end;
        int number;
        int flaw;

        void write(long w, int n) {
            for (int b = n - 1; b >= 0 && length < MOST_BYTES; b--) {
                bytes[length] = (byte) (w >> (8 * b));
                length++;
            }
        }

        int read(Chart into) {
            end = 0;
            flaw = 0;
            into.waters = 0;
            step();
            readTide(into);
            for (int read = 0; read <= MOST_WATERS && flaw == 0 && token != END; read++) {
                readWater(into);
            }
            length = 0;
            return flaw;
        }

        private void readTide(Chart into) {
            takeWord("tide");
            for (int h = 0; h < ROUND; h++) {
                into.levels[h] = takeNumber(MOST_LEVEL);
            }
            takeSign();
        }

        private void readWater(Chart into) {
            if (isWord("water") && into.waters >= MOST_WATERS) {
                flaw = NO_ROOM;
            }
            takeWord("water");
            int sort = takeSort();
            int depth = takeNumber(MOST_DEPTH);
            int sill = takeNumber(MOST_LEVEL);
            takeSign();
            if (flaw == 0) {
                into.add(sort, depth, sill);
            }
        }

        private void takeWord(String word) {
            takeIf(isWord(word));
        }

        private void takeSign() {
            takeIf(token == SIGN);
        }

        private int takeSort() {
            int sort = sortOfWord();
            takeIf(sort != WATER);
            return sort;
        }

        private int takeNumber(int most) {
            int value = number;
            if (flaw == 0 && token == NUMBER && value > most) {
                flaw = NOT_AS_TOLD;
            }
            takeIf(token == NUMBER);
            return value;
        }

        private void takeIf(boolean canStand) {
            if (flaw != 0) {
                return;
            }
            if (canStand) {
                step();
            } else {
                flaw = CANNOT_STAND;
            }
        }

        private int sortOfWord() {
            if (isWord("cove")) {
                return COVE;
            }
            if (isWord("lagoon")) {
                return LAGOON;
            }
            if (isWord("pool")) {
                return POOL;
            }
            if (isWord("dyke")) {
                return DYKE;
            }
            return isWord("well") ? WELL : WATER;
        }

        private boolean isWord(String word) {
            if (token != NAME || end - start != word.length()) {
                return false;
            }
            for (int i = 0; i < word.length(); i++) {
                if (bytes[start + i] != word.charAt(i)) {
                    return false;
                }
            }
            return true;
        }

        private void step() {
            start = end;
            while (start < length && isBlank(bytes[start])) {
                start++;
            }
            end = start;
            if (start >= length) {
                token = END;
            } else if (isLetter(bytes[start])) {
                token = NAME;
                stepOverLetters();
            } else if (isFigure(bytes[start])) {
                stepOverFigures();
                token = end - start <= MOST_FIGURES ? NUMBER : STRANGE;
            } else {
                token = bytes[start] == ';' ? SIGN : STRANGE;
                end++;
            }
        }

        private void stepOverLetters() {
            while (end < length && isLetter(bytes[end])) {
                end++;
            }
        }

        private void stepOverFigures() {
            number = 0;
            while (end < length && isFigure(bytes[end])) {
                number = number * 10 + (bytes[end] - '0');
                end++;
            }
        }

        private static boolean isBlank(byte b) {
            return b == 32 || b == 10;
        }

        private static boolean isLetter(byte b) {
            return b >= 'a' && b <= 'z';
        }

        private static boolean isFigure(byte b) {
            return b >= '0' && b <= '9';
        }
    }

    /** What a text tells of a BAY, which no ACT changes. */
    private static final class Chart {
        private static final int[] IS_ALSO = {WATER, WATER, COVE, COVE, WATER, DYKE};

        final int[] levels = new int[ROUND];
        final int[] kinds = new int[MOST_WATERS];
        final int[] depths = new int[MOST_WATERS];
        final int[] sills = new int[MOST_WATERS];
        int waters;

        void add(int sort, int depth, int sill) {
            if (waters >= MOST_WATERS) {
                return;
            }
            kinds[waters] = sort;
            depths[waters] = depth;
            sills[waters] = sill;
            waters++;
        }

        void takeFrom(Chart other) {
            System.arraycopy(other.levels, 0, levels, 0, ROUND);
            System.arraycopy(other.kinds, 0, kinds, 0, MOST_WATERS);
            System.arraycopy(other.depths, 0, depths, 0, MOST_WATERS);
            System.arraycopy(other.sills, 0, sills, 0, MOST_WATERS);
            waters = other.waters;
        }

        int level(int hour) {
            return levels[Math.floorMod(hour, ROUND)];
        }

        int rise(int hour) {
            return level(hour + 1) - level(hour);
        }

        int flow(int at, int hour) {
            switch (kinds[at]) {
                case COVE:
                    return rise(hour);
                case LAGOON:
                    return rise(hour) / 2;
                case POOL:
                    return level(hour + 1) >= sills[at] ? rise(hour) : 0;
                case WELL:
                    return rise(hour - 1);
                default:
                    return 0;
            }
        }

        static boolean isOne(int own, int wanted) {
            int each = own;
            for (int up = 0; up < KINDS && each != wanted && each != WATER; up++) {
                each = IS_ALSO[each];
            }
            return each == wanted;
        }
    }

    /** What ACTS change: the HOUR, the DEPTH and ARREARS of each WATER, and who owes whom. */
    private static final class Ledger {
        final int[] depths = new int[MOST_WATERS];
        final int[] arrears = new int[MOST_WATERS];
        final int[] debts = new int[MOST_WATERS * MOST_WATERS];
        int hour;

        void open(Chart chart) {
            hour = 0;
            Arrays.fill(depths, 0);
            Arrays.fill(arrears, 0);
            Arrays.fill(debts, 0);
            System.arraycopy(chart.depths, 0, depths, 0, chart.waters);
        }

        void takeFrom(Ledger other) {
            System.arraycopy(other.depths, 0, depths, 0, MOST_WATERS);
            System.arraycopy(other.arrears, 0, arrears, 0, MOST_WATERS);
            System.arraycopy(other.debts, 0, debts, 0, debts.length);
            hour = other.hour;
        }

        int debt(int from, int to) {
            return debts[from * MOST_WATERS + to];
        }

        int addDebt(int from, int to, int n) {
            debts[from * MOST_WATERS + to] += n;
            return debt(from, to);
        }

        void move(int from, int to, int n) {
            depths[from] -= n;
            depths[to] += n;
        }

        void passHours(Chart chart, int n) {
            for (int h = 0; h < n; h++) {
                passHour(chart);
            }
        }

        int passHour(Chart chart) {
            int rise = chart.rise(hour);
            for (int w = 0; w < chart.waters; w++) {
                takeOrGive(w, chart.flow(w, hour));
            }
            if (rise >= -1 && rise <= 1) {
                growDebts();
            }
            hour++;
            return rise;
        }

        private void takeOrGive(int at, int inches) {
            if (inches >= 0) {
                int paid = Math.min(inches, arrears[at]);
                arrears[at] -= paid;
                depths[at] += inches - paid;
            } else {
                int given = Math.min(-inches, depths[at]);
                depths[at] -= given;
                arrears[at] += -inches - given;
            }
        }

        private void growDebts() {
            for (int i = 0; i < debts.length; i++) {
                debts[i] = Math.min(debts[i] + debts[i] / 10, MOST_DEBT);
            }
        }

        int advance(int seed, int waters) {
            long x = seed;
            int inAll = 0;
            for (int w = 0; w < waters; w++) {
                x = x * 16807 % 2147483647;
                int inches = (int) (x % 9);
                depths[w] += inches;
                arrears[w] += inches;
                inAll += inches;
            }
            return inAll;
        }

        int owedBy(int at) {
            int sum = 0;
            for (int other = 0; other < MOST_WATERS; other++) {
                sum += debt(at, other);
            }
            return sum;
        }

        int balance(int at) {
            int sum = owedBy(at);
            for (int other = 0; other < MOST_WATERS; other++) {
                sum -= debt(other, at);
            }
            return sum;
        }

        int payAll(int waters) {
            int failing = 0;
            for (int w = 0; w < waters; w++) {
                if (!payOthers(w, waters)) {
                    failing |= 1 << w;
                }
            }
            return failing;
        }

        private boolean payOthers(int at, int waters) {
            boolean all = true;
            for (int other = 0; other < waters; other++) {
                int paid = Math.min(debt(at, other), depths[at]);
                all = all && paid == debt(at, other);
                move(at, other, paid);
            }
            return all;
        }

        int depthInAll() {
            int sum = 0;
            for (int w = 0; w < MOST_WATERS; w++) {
                sum += depths[w];
            }
            return sum;
        }

        int debtsAboveNone() {
            int n = 0;
            for (int i = 0; i < debts.length; i++) {
                if (debts[i] > 0) {
                    n++;
                }
            }
            return n;
        }
    }

    private static final class Bay {
        final Chart chart = new Chart();
        final Ledger ledger = new Ledger();
        boolean stands;

        void open(Chart read) {
            chart.takeFrom(read);
            ledger.open(chart);
            stands = true;
        }

        void takeFrom(Bay other) {
            chart.takeFrom(other.chart);
            ledger.takeFrom(other.ledger);
            stands = other.stands;
        }
    }

    /** A ring of ledgers as they were ahead of each ACT: undoing one is taking its ledger back. */
    private static final class Past {
        final Ledger[] ledgers = new Ledger[MOST_ACTS];
        int next;
        int kept;

        Past() {
            for (int i = 0; i < MOST_ACTS; i++) {
                ledgers[i] = new Ledger();
            }
        }

        void keep(Ledger ledger) {
            ledgers[next].takeFrom(ledger);
            next = (next + 1) % MOST_ACTS;
            kept = Math.min(kept + 1, MOST_ACTS);
        }

        void giveBack(Ledger ledger) {
            next = (next + MOST_ACTS - 1) % MOST_ACTS;
            kept--;
            ledger.takeFrom(ledgers[next]);
        }

        void forget() {
            kept = 0;
        }
    }

    private static final class Netting {
        final int[] balances = new int[MOST_WATERS];
        final int[] givers = new int[MOST_WATERS];
        final int[] takers = new int[MOST_WATERS];
        final int[] inches = new int[MOST_WATERS];
        int gifts;

        boolean canBe(Ledger ledger, int waters) {
            for (int w = 0; w < waters; w++) {
                if (ledger.depths[w] < ledger.balance(w)) {
                    return false;
                }
            }
            return true;
        }

        void workOut(Ledger ledger, int waters) {
            Arrays.fill(balances, 0);
            for (int w = 0; w < waters; w++) {
                balances[w] = ledger.balance(w);
            }
            gifts = 0;
            // Each gift leaves one balance fewer, so there are never more gifts than waters.
            for (int step = 0; step < MOST_WATERS; step++) {
                addGift(firstWithSign(1), firstWithSign(-1));
            }
        }

        private void addGift(int giver, int taker) {
            if (giver == NONE || taker == NONE || gifts >= MOST_WATERS) {
                return;
            }
            int much = Math.min(balances[giver], -balances[taker]);
            balances[giver] -= much;
            balances[taker] += much;
            givers[gifts] = giver;
            takers[gifts] = taker;
            inches[gifts] = much;
            gifts++;
        }

        private int firstWithSign(int sign) {
            for (int w = 0; w < MOST_WATERS; w++) {
                if (Integer.signum(balances[w]) == sign) {
                    return w;
                }
            }
            return NONE;
        }

        int tell(int k, int what) {
            if (k < 0 || k >= gifts) {
                return NONE;
            }
            if (what == 0) {
                return givers[k];
            }
            return what == 1 ? takers[k] : inches[k];
        }

        int moveAll(Ledger ledger) {
            int inAll = 0;
            for (int k = 0; k < gifts; k++) {
                ledger.move(givers[k], takers[k], inches[k]);
                inAll += inches[k];
            }
            Arrays.fill(ledger.debts, 0);
            return inAll;
        }
    }

    /** BODIES by their numbers; THE TRACE of those that began. */
    private static final class Asker {
        private static final int[] SIZE_OF_KIND = {10, 11, 12, 11, 13, 14};
        private static final int[] MARK_OF_KIND = {20, 21, 24, 22, 23, 23};
        private static final int DEEPEST = 20;

        final int[] numbers = new int[16];
        int traced;

        int size(Bay bay, int at, int open) {
            return begin(SIZE_OF_KIND[bay.chart.kinds[at]], bay, at, open);
        }

        int mark(Bay bay, int at, int open) {
            return begin(MARK_OF_KIND[bay.chart.kinds[at]], bay, at, open);
        }

        private int begin(int body, Bay bay, int at, int open) {
            if (open > DEEPEST) {
                return 0;
            }
            note(body);
            int on = open + 1;
            switch (body) {
                case 10:
                    return bay.ledger.depths[at];
                case 11:
                    return begin(10, bay, at, on) + mark(bay, at, on);
                case 12:
                    return -begin(11, bay, at, on);
                case 13:
                    return begin(10, bay, at, on) - 100;
                case 14:
                    return 2 * begin(13, bay, at, on);
                case 20:
                    return at;
                case 21:
                    return begin(20, bay, at, on) + bay.chart.sills[at];
                case 22:
                    return begin(21, bay, at, on) - 1000;
                case 23:
                    return begin(20, bay, at, on) - size(bay, at, on);
                case 24:
                    return 2 * begin(21, bay, at, on);
                default:
                    return 0;
            }
        }

        private void note(int body) {
            if (traced < numbers.length) {
                numbers[traced] = body;
                traced++;
            }
        }
    }
}
