import java.util.NoSuchElementException;

/**
 * Two shores, what is made, eaten, wanted and hoarded there, men who miss one another, and a ferry
 * that takes over only who is missed and what is lacking. README.md tells how to use it.
 */
public final class LackFerry {
    public static final int NONE = -1;

    private static final int TAPE_MOST = 940;
    private static final int STRAIT_MOST = 900;
    private static final int LOG_MOST = 400;
    private static final int SENTENCE_MOST = 200;
    /** A TOKEN for each byte of the longest text, and the end. */
    private static final int TOKENS_MOST = STRAIT_MOST + 1;
    private static final int GOODS_MOST = 6;
    private static final int MEN_MOST = 8;
    private static final int MISSES_MOST = 20;
    private static final int LINES_MOST = 40;
    private static final int ONES_MOST = 20;
    private static final int WITHIN_MOST = 8;
    private static final int KEPT_MOST = 8;
    private static final int IMAGES = 2;
    /** A GOOD on a SHORE has the slot 2 * GOOD + SHORE. */
    private static final int SLOTS = 2 * GOODS_MOST;
    private static final int PAIRS = MEN_MOST * MEN_MOST;

    private static final int ALL_OVER = 400;
    private static final int STOCK_MOST = 999;
    private static final int AMOUNT_MOST = 250;
    private static final int RATE_MOST = 20;
    private static final int DAYS_MOST = 60;
    private static final int LOAD_MOST = 40;
    private static final int LOAD_UNTOLD = 10;
    private static final int ROOM_OF_A_MAN = 2;
    private static final int CROSSES_WITHIN = 100;
    private static final int SETTLES_WITHIN = 200;
    private static final int ROUNDS_MOST = 60;
    private static final int FIRST_PRICE = 5;
    private static final int SEEDS_MOST = 30;
    private static final int ODDS_DAYS = 20;
    private static final int TAPE_STOCKS_LEAST = 2;
    private static final int TAPE_STOCKS_MOST = 30;
    private static final int OTHER_LIVES = -1000;

    private static final int NO_TOKEN = 1;
    private static final int NOT_AS_TOLD = 2;
    private static final int WRONG_NAME = 3;
    private static final int TOO_MANY = 4;

    /** What can be done to a GOOD, in the order of the draws and of the tens of a LOG's reasons. */
    private static final int HOARDING = 0;
    private static final int BARING = 1;
    private static final int WASTING = 2;
    private static final int DYING = 3;
    private static final int PASSING = 4;
    private static final int FEWER_DAYS = 41;

    /** What is told of a GOOD on a SHORE, in the order of the words for it. */
    private static final int TOLD_STOCK = 0;
    private static final int TOLD_WANTS = 1;
    private static final int TOLD_EATS = 2;
    private static final int TOLD_MAKES = 3;
    private static final int TOLD_SORTS = 4;

    /** Kinds of TOKENS; that of a sign is its byte, that of a told word FIRST_WORD and its place among WORDS. */
    private static final int END = 0;
    private static final int BAD = 1;
    private static final int NAME = 2;
    private static final int NUMBER = 3;
    private static final int FIRST_WORD = 64;
    private static final int WORD_LOAD = 64;
    private static final int WORD_GOOD = 65;
    private static final int WORD_STOCK = 66;
    private static final int WORD_MAKES = 69;
    private static final int WORD_MAN = 70;
    private static final int WORD_MISSES = 71;
    private static final int WORD_HOARDS = 72;
    private static final int WORD_WASTES = 74;
    private static final int WORD_DIES = 75;
    private static final int WORD_DAY = 76;
    private static final int WORD_OR = 77;
    private static final int WORD_AND = 78;
    private static final int WORD_NOT = 79;
    private static final int WORD_LACKED = 80;
    private static final int WORD_HOARDED = 81;
    private static final int WORD_MADE = 82;
    private static final int WORD_EATEN = 83;
    private static final int WORD_FALSE = 84;
    private static final int WORD_NEAR = 85;
    private static final int WORD_FAR = 86;
    private static final int WORD_CROSSED = 87;
    private static final int WORD_NUMBER = 88;

    /** The words that are no names, each filled up with blanks to the longest length. */
    private static final String WORDS =
        "load   good   stock  wants  eats   makes  man    misses hoards bares  wastes dies   day    or     and    not    lacked hoardedmade   eaten  false  near   far    crossednumber ";
    private static final int WORD_LENGTH = 7;
    private static final int WORD_COUNT = 25;
    private static final int NUMBER_LENGTH = 3;

    private final Tape tape = new Tape();
    private final Tokens tokens = new Tokens();
    private final Ferry ferry = new Ferry();
    private final History history = new History();
    private final Shores present = new Shores();
    private final Shores ahead = new Shores();
    private final Shores behind = new Shores();
    private final LogText logText = new LogText();
    private final Draws draws = new Draws();
    private final Image[] images = new Image[IMAGES];
    private final int[] priceAt = new int[SLOTS];
    private final int[] roomOnDay = new int[DAYS_MOST];
    private final int[] logFacts = {NONE, NONE, NONE, NONE};
    private Strait told = new Strait();
    private Strait straitDraft = new Strait();
    private Sentence spoken = new Sentence();
    private Sentence sentenceDraft = new Sentence();
    private int pricedGoods;
    private int latestFault;

    public LackFerry() {
    }

    // ---- the tape and the STRAIT

    public int feed(int a, int b, int c, int d, int e) {
        if (tape.size + 20 > TAPE_MOST) {
            return NONE;
        }
        tape.put(a);
        tape.put(b);
        tape.put(c);
        tape.put(d);
        tape.put(e);
        return tape.size;
    }

    public boolean end(int n) {
        if (n < 0 || n > tape.size) {
            return false;
        }
        tape.size = n;
        return true;
    }

    public int strait() {
        tape.moveInto(tokens, STRAIT_MOST);
        int lines = straitDraft.readText(tokens);
        latestFault = tokens.faultKind;
        if (latestFault != 0) {
            return -1 - tokens.place;
        }
        Strait old = told;
        told = straitDraft;
        straitDraft = old;
        present.beginAs(told);
        spoken.isSaid = false;
        history.forget();
        return lines;
    }

    public int fault() {
        return latestFault;
    }

    // ---- what is so

    private boolean isGood(int g) {
        return g >= 0 && g < told.goods;
    }

    private static boolean isShore(int shore) {
        return shore == 0 || shore == 1;
    }

    private boolean isSlot(int g, int shore) {
        return isGood(g) && isShore(shore);
    }

    private boolean isMan(int m) {
        return m >= 0 && m < told.men;
    }

    private boolean areLivingTwo(int m, int o) {
        return isMan(m) && isMan(o) && m != o && present.isAlive(m) && present.isAlive(o);
    }

    private static boolean isWithin(int n, int most) {
        return n >= 1 && n <= most;
    }

    private static int slotOf(int g, int shore) {
        return 2 * g + shore;
    }

    public int good(int g, int shore, int what) {
        if (!isSlot(g, shore)) {
            return NONE;
        }
        int slot = slotOf(g, shore);
        switch (what) {
            case 0: return present.stocks[slot];
            case 1: return present.hoards[slot];
            case 2: return told.amountOf(TOLD_WANTS, slot);
            case 3: return told.amountOf(TOLD_EATS, slot);
            case 4: return told.amountOf(TOLD_MAKES, slot);
            case 5: return present.lackAt(told, slot);
            case 6: return present.isFalse(told, slot) ? 1 : 0;
            case 7: return present.hungers[slot];
            default: return NONE;
        }
    }

    public int crossed(int g, int shore) {
        return isSlot(g, shore) ? present.broughtTo[slotOf(g, shore)] : NONE;
    }

    public int man(int m, int what) throws NoSuchElementException {
        if (!isMan(m)) {
            throw new NoSuchElementException("no such man");
        }
        switch (what) {
            case 0: return present.shoreOf[m];
            case 1: return present.missersOf(told, m);
            case 2: return present.missedBy(told, m);
            case 3: return present.trips[m];
            case 4: return present.isAlive(m) ? 1 : 0;
            default: throw new NoSuchElementException("no such thing of a man");
        }
    }

    public int apart(int m, int o) {
        return areLivingTwo(m, o) ? present.apartOf(m, o) : NONE;
    }

    public int now(int what) {
        switch (what) {
            case 0: return present.day;
            case 1: return present.ferryShore();
            case 2: return present.menOn(told, 0);
            case 3: return present.menOn(told, 1);
            case 4: return present.emptyTrips;
            case 5: return present.roomUsed;
            case 6: return present.hungerInAll();
            default: return NONE;
        }
    }

    public int lacks(int shore) {
        if (!isShore(shore)) {
            return NONE;
        }
        int bits = 0;
        for (int g = 0; g < told.goods; g++) {
            if (present.lackAt(told, slotOf(g, shore)) > 0) {
                bits |= 1 << g;
            }
        }
        return bits;
    }

    public int falses(int shore) {
        if (!isShore(shore)) {
            return NONE;
        }
        int bits = 0;
        for (int g = 0; g < told.goods; g++) {
            if (present.isFalse(told, slotOf(g, shore))) {
                bits |= 1 << g;
            }
        }
        return bits;
    }

    public int dearest() {
        int most = 0;
        int dear = NONE;
        for (int m = 0; m < told.men; m++) {
            int missers = Integer.bitCount(present.missersOf(told, m));
            if (missers > most) {
                most = missers;
                dear = m;
            }
        }
        return dear;
    }

    public int rats() {
        int bits = 0;
        for (int m = 0; m < told.men; m++) {
            if (present.isAlive(m) && !present.couldBeMissed(told, m)) {
                bits |= 1 << m;
            }
        }
        return bits;
    }

    public int hoarded(int shore) {
        if (!isShore(shore)) {
            return NONE;
        }
        int most = 0;
        int found = NONE;
        for (int g = 0; g < told.goods; g++) {
            int hoard = present.hoards[slotOf(g, shore)];
            if (hoard > most) {
                most = hoard;
                found = g;
            }
        }
        return found;
    }

    public int count(int what) {
        switch (what) {
            case 0: return told.goods;
            case 1: return told.men;
            case 2: return told.load;
            case 3: return told.missings;
            case 4: return tape.size;
            default: return NONE;
        }
    }

    // ---- what is done, and undone

    public int hoard(int g, int shore, int n) {
        return act(HOARDING, g, shore, n);
    }

    public int bare(int g, int shore, int n) {
        return act(BARING, g, shore, n);
    }

    public int waste(int g, int shore, int n) {
        return act(WASTING, g, shore, n);
    }

    private int act(int deed, int g, int shore, int n) {
        if (!isSlot(g, shore) || !isWithin(n, AMOUNT_MOST)) {
            return NONE;
        }
        int slot = slotOf(g, shore);
        int why = present.whyNot(deed, slot, n);
        if (why == 0) {
            history.keep(present);
            present.perform(deed, slot, n);
        }
        return why;
    }

    public int die(int m) {
        if (!isMan(m)) {
            return NONE;
        }
        int why = present.whyNot(DYING, m, 0);
        if (why == 0) {
            history.keep(present);
            present.perform(DYING, m, 0);
        }
        return why;
    }

    public int days(int n) {
        if (!isWithin(n, DAYS_MOST)) {
            return NONE;
        }
        if (present.day < ALL_OVER) {
            history.keep(present);
        }
        return ferry.passDays(told, present, n);
    }

    public int undo() {
        return history.takeBack(present);
    }

    // ---- what would be, if nothing is done

    public int going() {
        ferry.plan(told, present);
        return ferry.boarders;
    }

    public int goes(int g) {
        if (!isGood(g)) {
            return NONE;
        }
        ferry.plan(told, present);
        return ferry.freight[g];
    }

    public int crosses(int m) {
        if (!isMan(m) || !present.isAlive(m)) {
            return NONE;
        }
        ahead.copyFrom(present);
        for (int k = 0; k < CROSSES_WITHIN && ahead.day < ALL_OVER; k++) {
            int day = ahead.day;
            ferry.passDays(told, ahead, 1);
            if ((ferry.boarders & 1 << m) != 0) {
                return day;
            }
        }
        return NONE;
    }

    public int comes(int g, int shore) {
        if (!isSlot(g, shore)) {
            return NONE;
        }
        ahead.copyFrom(present);
        for (int k = 0; k < CROSSES_WITHIN && ahead.day < ALL_OVER; k++) {
            int day = ahead.day;
            boolean isTowards = ahead.ferryShore() != shore;
            ferry.passDays(told, ahead, 1);
            if (isTowards && ferry.freight[g] > 0) {
                return day;
            }
        }
        return NONE;
    }

    public int without(int g, int shore, int n, int d) {
        if (!isSlot(g, shore) || !isWithin(n, AMOUNT_MOST) || !isWithin(d, DAYS_MOST)) {
            return NONE;
        }
        int days = foreseeRoom(g, d);
        if (roomTowards(shore, days) < n) {
            return NONE;
        }
        int stock = present.stocks[slotOf(g, shore)];
        for (int wasted = 0; wasted <= stock; wasted++) {
            if (wouldCome(g, shore, wasted, days) >= n) {
                return wasted;
            }
        }
        return NONE;
    }

    /**
     * Neither MEN nor GOODS of lower numbers depend on how much of a GOOD there is, so that the room
     * left for it on each DAY is the same however much of it is wasted.
     */
    private int foreseeRoom(int g, int d) {
        ahead.copyFrom(present);
        int days = 0;
        for (int k = 0; k < d && k < DAYS_MOST && ahead.day < ALL_OVER; k++) {
            ferry.passDays(told, ahead, 1);
            roomOnDay[k] = ferry.roomFor[g];
            days++;
        }
        return days;
    }

    private int roomTowards(int shore, int days) {
        int room = 0;
        for (int k = 0; k < days && k < DAYS_MOST; k++) {
            if ((present.day + k) % 2 != shore) {
                room += roomOnDay[k];
            }
        }
        return room;
    }

    private int wouldCome(int g, int shore, int wasted, int days) {
        int hereSlot = slotOf(g, shore);
        int thereSlot = slotOf(g, 1 - shore);
        int wantedHere = told.amountOf(TOLD_WANTS, hereSlot);
        int wantedThere = told.amountOf(TOLD_WANTS, thereSlot);
        int here = present.stocks[hereSlot] - wasted;
        int there = present.stocks[thereSlot];
        int come = 0;
        for (int k = 0; k < days && k < DAYS_MOST; k++) {
            if ((present.day + k) % 2 == shore) {
                int gone = Ferry.amountMoved(here, wantedThere - there, roomOnDay[k]);
                here -= gone;
                there += gone;
            } else {
                int arrived = Ferry.amountMoved(there, wantedHere - here, roomOnDay[k]);
                here += arrived;
                there -= arrived;
                come += arrived;
            }
            here = told.stockAfter(hereSlot, here);
            there = told.stockAfter(thereSlot, there);
        }
        return come;
    }

    public int meet(int m, int o) {
        if (!areLivingTwo(m, o)) {
            return NONE;
        }
        ahead.copyFrom(present);
        for (int k = 0; k <= CROSSES_WITHIN; k++) {
            if (ahead.shoreOf[m] == ahead.shoreOf[o]) {
                return k;
            }
            if (ahead.day >= ALL_OVER) {
                return NONE;
            }
            ferry.passDays(told, ahead, 1);
        }
        return NONE;
    }

    public int loads(int n) {
        if (!isWithin(n, DAYS_MOST)) {
            return NONE;
        }
        ahead.copyFrom(present);
        ferry.passDays(told, ahead, n);
        return ahead.roomUsed - present.roomUsed;
    }

    public int settles() {
        behind.copyFrom(present);
        ahead.copyFrom(present);
        if (ferry.passDays(told, ahead, 2) < 2) {
            return NONE;
        }
        for (int k = 0; k < SETTLES_WITHIN; k++) {
            if (ahead.looksLike(behind)) {
                return behind.day;
            }
            if (ahead.day >= ALL_OVER) {
                return NONE;
            }
            ferry.passDays(told, ahead, 1);
            ferry.passDays(told, behind, 1);
        }
        return NONE;
    }

    public int hunger(int g, int shore, int n) {
        if (!isSlot(g, shore) || !isWithin(n, DAYS_MOST)) {
            return NONE;
        }
        int slot = slotOf(g, shore);
        ahead.copyFrom(present);
        ferry.passDays(told, ahead, n);
        return ahead.hungers[slot] - present.hungers[slot];
    }

    // ---- WHICH

    public int which() {
        int size = tape.size;
        tape.size = 0;
        int stocks = size - 1;
        if (stocks < TAPE_STOCKS_LEAST || stocks > TAPE_STOCKS_MOST || !isShore(tape.valueAt(0))) {
            return NONE;
        }
        int shore = tape.valueAt(0);
        int bits = 0;
        for (int g = 0; g < told.goods; g++) {
            if (couldGoSo(slotOf(g, shore), stocks)) {
                bits |= 1 << g;
            }
        }
        return bits;
    }

    private boolean couldGoSo(int slot, int stocks) {
        for (int k = 1; k < stocks; k++) {
            if (told.stockAfter(slot, tape.valueAt(k)) != tape.valueAt(k + 1)) {
                return false;
            }
        }
        return true;
    }

    // ---- PRICES

    public int prices() {
        ahead.copyFrom(present);
        pricedGoods = told.goods;
        for (int slot = 0; slot < SLOTS; slot++) {
            priceAt[slot] = FIRST_PRICE;
        }
        for (int round = 1; round < ROUNDS_MOST; round++) {
            if (!movePrices()) {
                return round;
            }
            ferry.passDays(told, ahead, 1);
        }
        movePrices();
        return ROUNDS_MOST;
    }

    private boolean movePrices() {
        boolean hasMoved = false;
        for (int slot = 0; slot < 2 * told.goods; slot++) {
            int wanted = told.amountOf(TOLD_WANTS, slot);
            if (ahead.stocks[slot] < wanted) {
                priceAt[slot]++;
                hasMoved = true;
            } else if (ahead.stocks[slot] > wanted && priceAt[slot] > 0) {
                priceAt[slot]--;
                hasMoved = true;
            }
        }
        return hasMoved;
    }

    /** GOODS are those that the latest prices() had, whatever STRAIT is told since. */
    public int price(int g, int shore) {
        boolean isPriced = g >= 0 && g < pricedGoods && isShore(shore);
        return isPriced ? priceAt[slotOf(g, shore)] : NONE;
    }

    // ---- DRAWN

    public int drawn(int n, int seed) {
        if (!isWithin(n, DAYS_MOST) || told.goods == 0) {
            return NONE;
        }
        if (present.day < ALL_OVER) {
            history.keep(present);
        }
        return drawDays(present, n, seed);
    }

    public int odds(int m, int n, int seed) {
        if (!isMan(m) || !isWithin(n, SEEDS_MOST) || told.goods == 0) {
            return NONE;
        }
        int found = 0;
        for (int k = 0; k < n; k++) {
            ahead.copyFrom(present);
            drawDays(ahead, ODDS_DAYS, seed + k);
            if (ahead.trips[m] > present.trips[m]) {
                found++;
            }
        }
        return found;
    }

    private int drawDays(Shores shores, int n, int seed) {
        int first = shores.day;
        draws.x = seed;
        for (int k = 0; k < n && shores.day < ALL_OVER; k++) {
            drawDeed(shores);
            drawDeath(shores);
            ferry.passDays(told, shores, 1);
        }
        return shores.day - first;
    }

    private void drawDeed(Shores shores) {
        int deed = draws.drawOf(6);
        if (deed > WASTING) {
            return;
        }
        int g = draws.drawOf(told.goods);
        int shore = draws.drawOf(2);
        int n = draws.drawOf(20) + 1;
        shores.attempt(deed, slotOf(g, shore), n);
    }

    private void drawDeath(Shores shores) {
        if (draws.drawOf(90) == 0 && told.men > 0) {
            shores.attempt(DYING, draws.drawOf(told.men), 0);
        }
    }

    // ---- a LOG

    public int log(int lives) {
        if (lives != 0 && lives != 1) {
            return OTHER_LIVES;
        }
        tape.moveInto(tokens, LOG_MOST);
        logText.readText(tokens, told);
        latestFault = tokens.faultKind;
        if (latestFault != 0) {
            return -2 - tokens.place;
        }
        ahead.copyFrom(present);
        int wrong = judgeLog();
        logFacts[2] = ahead.day;
        logFacts[3] = ahead.hungerInAll() - present.hungerInAll();
        if (lives == 1 && logFacts[1] > 0) {
            history.keep(present);
            present.copyFrom(ahead);
        }
        return wrong;
    }

    private int judgeLog() {
        for (int line = 0; line < logText.lines; line++) {
            int why = liveLine(logText.deeds[line], logText.whom[line], logText.amounts[line]);
            if (why != 0) {
                logFacts[0] = why;
                logFacts[1] = line;
                return line;
            }
        }
        logFacts[0] = 0;
        logFacts[1] = logText.lines;
        return NONE;
    }

    private int liveLine(int deed, int whom, int n) {
        if (deed == PASSING) {
            if (ALL_OVER - ahead.day < n) {
                return FEWER_DAYS;
            }
            ferry.passDays(told, ahead, n);
            return 0;
        }
        int why = ahead.attempt(deed, whom, n);
        return why == 0 ? 0 : 10 * deed + why;
    }

    public int logged(int what) {
        return what >= 0 && what < logFacts.length ? logFacts[what] : NONE;
    }

    // ---- a SENTENCE

    public int sentence() {
        tape.moveInto(tokens, SENTENCE_MOST);
        sentenceDraft.readText(tokens);
        latestFault = tokens.faultKind;
        if (latestFault != 0) {
            return -1 - tokens.place;
        }
        Sentence old = spoken;
        spoken = sentenceDraft;
        sentenceDraft = old;
        return spoken.ones;
    }

    public int said(int k) {
        if (!spoken.isSaid || k < NONE) {
            return NONE;
        }
        int found = 0;
        for (int g = 0; g < told.goods; g++) {
            if (spoken.holdsOf(g, told, present)) {
                if (found == k) {
                    return g;
                }
                found++;
            }
        }
        return k == NONE ? found : NONE;
    }

    // ---- images

    public boolean image(int k) {
        if (k < 0 || k >= IMAGES) {
            return false;
        }
        Image kept = images[k];
        if (kept == null) {
            kept = new Image();
            images[k] = kept;
        }
        kept.strait.copyFrom(told);
        kept.shores.copyFrom(present);
        kept.sentence.copyFrom(spoken);
        return true;
    }

    public boolean restore(int k) {
        if (k < 0 || k >= IMAGES) {
            return false;
        }
        Image kept = images[k];
        if (kept == null) {
            return false;
        }
        told.copyFrom(kept.strait);
        present.copyFrom(kept.shores);
        spoken.copyFrom(kept.sentence);
        history.forget();
        return true;
    }

    /** The bytes that were fed, and how they are cut into TOKENS. */
    private static final class Tape {
        private final byte[] bytes = new byte[TAPE_MOST];
        int size;
        private int at;

        void put(int four) {
            for (int shift = 24; shift >= 0 && size < TAPE_MOST; shift -= 8) {
                bytes[size] = (byte) (four >> shift);
                size++;
            }
        }

        int valueAt(int index) {
            return index >= 0 && index < TAPE_MOST ? bytes[index] & 255 : 0;
        }

        /** Nothing behind the end, or the first that is no TOKEN, can be read any more. */
        void moveInto(Tokens tokens, int most) {
            tokens.clear();
            at = 0;
            boolean goesOn = true;
            for (int k = 0; k <= most && goesOn; k++) {
                skipBlanks();
                if (at < size && at < most) {
                    goesOn = cutToken(tokens) != BAD;
                } else {
                    tokens.add(size > most ? BAD : END, Math.min(size, most), 0);
                    goesOn = false;
                }
            }
            size = 0;
        }

        private void skipBlanks() {
            while (at < size && (valueAt(at) == ' ' || valueAt(at) == '\n')) {
                at++;
            }
        }

        private int cutToken(Tokens tokens) {
            int c = valueAt(at);
            if (isLetter(c) || isDigit(c)) {
                return cutRun(tokens);
            }
            int kind = isSign(c) ? c : BAD;
            tokens.add(kind, at, 0);
            at++;
            return kind;
        }

        /** Letters or digits past the longest lengths are only counted: they make it no TOKEN. */
        private int cutRun(Tokens tokens) {
            int place = at;
            int letters = 0;
            int digits = 0;
            long name = 0;
            int number = 0;
            while (at < size && (isLetter(valueAt(at)) || isDigit(valueAt(at)))) {
                int c = valueAt(at);
                if (isDigit(c)) {
                    digits++;
                    number = digits <= NUMBER_LENGTH ? number * 10 + c - '0' : number;
                } else {
                    letters++;
                    name = letters <= WORD_LENGTH ? name * 32 + c - 'a' + 1 : name;
                }
                at++;
            }
            int kind = BAD;
            if (digits == 0 && letters <= WORD_LENGTH) {
                kind = kindOfWord(place, letters);
            } else if (letters == 0 && digits <= NUMBER_LENGTH) {
                kind = NUMBER;
            }
            tokens.add(kind, place, kind == NUMBER ? number : name);
            return kind;
        }

        private int kindOfWord(int place, int letters) {
            for (int k = 0; k < WORD_COUNT; k++) {
                if (isToldWord(k, place, letters)) {
                    return FIRST_WORD + k;
                }
            }
            return NAME;
        }

        private boolean isToldWord(int k, int place, int letters) {
            int start = k * WORD_LENGTH;
            for (int i = 0; i < WORD_LENGTH && start + i < WORDS.length(); i++) {
                int c = i < letters ? valueAt(place + i) : ' ';
                if (c != WORDS.charAt(start + i)) {
                    return false;
                }
            }
            return true;
        }

        private static boolean isLetter(int c) {
            return c >= 'a' && c <= 'z';
        }

        private static boolean isDigit(int c) {
            return c >= '0' && c <= '9';
        }

        private static boolean isSign(int c) {
            return c == ';' || c == '<' || c == '=' || c == '>' || c == '(' || c == ')' || c == '.';
        }
    }

    /** The TOKENS of a text, read one by one; every FAULT is at the TOKEN that was read last. */
    private static final class Tokens {
        private final int[] kinds = new int[TOKENS_MOST];
        private final int[] places = new int[TOKENS_MOST];
        private final long[] values = new long[TOKENS_MOST];
        private int size;
        private int next;
        int kind;
        int place;
        int number;
        long name;
        int faultKind;

        void clear() {
            size = 0;
            next = 0;
            faultKind = 0;
        }

        void add(int newKind, int newPlace, long newValue) {
            if (size < TOKENS_MOST) {
                kinds[size] = newKind;
                places[size] = newPlace;
                values[size] = newValue;
                size++;
            }
        }

        boolean fail(int fault) {
            faultKind = fault;
            return false;
        }

        /** The last one, which no text can have inside, stays. */
        void step() {
            if (next < size && next < TOKENS_MOST) {
                kind = kinds[next];
                place = places[next];
                name = values[next];
                number = (int) values[next];
                next++;
            }
        }

        boolean takeSign(int due) {
            step();
            return kind == due || fail(NO_TOKEN);
        }

        boolean takeNumber(int least, int highest) {
            step();
            if (kind != NUMBER) {
                return fail(NO_TOKEN);
            }
            return number >= least && number <= highest || fail(NOT_AS_TOLD);
        }

        boolean takeName() {
            step();
            return kind == NAME || fail(NO_TOKEN);
        }
    }

    /** What a STRAIT's text tells. */
    private static final class Strait {
        final long[] goodNames = new long[GOODS_MOST];
        final long[] manNames = new long[MEN_MOST];
        final int[] firstShores = new int[MEN_MOST];
        final int[] amounts = new int[TOLD_SORTS * SLOTS];
        /** Who misses, whom, and from how many DAYS apart on. */
        final int[] missers = new int[MISSES_MOST];
        final int[] missed = new int[MISSES_MOST];
        final int[] missDays = new int[MISSES_MOST];
        int load = LOAD_UNTOLD;
        int goods;
        int men;
        int missings;
        private boolean isLoadTold;
        private long amountsTold;

        int amountOf(int sort, int slot) {
            return amounts[sort * SLOTS + slot];
        }

        /** What is left of a STOCK when it was made and eaten of; below 0: so much is HUNGER. */
        int leftAfter(int slot, int stock) {
            int made = Math.min(STOCK_MOST, stock + amounts[TOLD_MAKES * SLOTS + slot]);
            return made - amounts[TOLD_EATS * SLOTS + slot];
        }

        int stockAfter(int slot, int stock) {
            return Math.max(0, leftAfter(slot, stock));
        }

        void copyFrom(Strait other) {
            System.arraycopy(other.goodNames, 0, goodNames, 0, GOODS_MOST);
            System.arraycopy(other.manNames, 0, manNames, 0, MEN_MOST);
            System.arraycopy(other.firstShores, 0, firstShores, 0, MEN_MOST);
            System.arraycopy(other.amounts, 0, amounts, 0, TOLD_SORTS * SLOTS);
            System.arraycopy(other.missers, 0, missers, 0, MISSES_MOST);
            System.arraycopy(other.missed, 0, missed, 0, MISSES_MOST);
            System.arraycopy(other.missDays, 0, missDays, 0, MISSES_MOST);
            load = other.load;
            goods = other.goods;
            men = other.men;
            missings = other.missings;
        }

        private void clear() {
            for (int i = 0; i < amounts.length; i++) {
                amounts[i] = 0;
            }
            load = LOAD_UNTOLD;
            goods = 0;
            men = 0;
            missings = 0;
            isLoadTold = false;
            amountsTold = 0;
        }

        int goodNamed(long name) {
            for (int g = 0; g < goods; g++) {
                if (goodNames[g] == name) {
                    return g;
                }
            }
            return NONE;
        }

        int manNamed(long name) {
            for (int m = 0; m < men; m++) {
                if (manNames[m] == name) {
                    return m;
                }
            }
            return NONE;
        }

        int readText(Tokens text) {
            clear();
            for (int lines = 0; lines <= STRAIT_MOST; lines++) {
                text.step();
                if (text.kind == END) {
                    return lines;
                }
                if (!readLine(text) || !text.takeSign(';')) {
                    return NONE;
                }
            }
            return NONE;
        }

        private boolean readLine(Tokens text) {
            if (text.kind >= WORD_STOCK && text.kind <= WORD_MAKES) {
                return readAmount(text, text.kind - WORD_STOCK);
            }
            switch (text.kind) {
                case WORD_LOAD: return readLoad(text);
                case WORD_GOOD: return readGood(text);
                case WORD_MAN: return readMan(text);
                case WORD_MISSES: return readMisses(text);
                default: return text.fail(NO_TOKEN);
            }
        }

        private boolean readLoad(Tokens text) {
            if (isLoadTold) {
                return text.fail(WRONG_NAME);
            }
            if (!text.takeNumber(1, LOAD_MOST)) {
                return false;
            }
            isLoadTold = true;
            load = text.number;
            return true;
        }

        private boolean takeNewName(Tokens text) {
            if (!text.takeName()) {
                return false;
            }
            boolean isNew = goodNamed(text.name) == NONE && manNamed(text.name) == NONE;
            return isNew || text.fail(WRONG_NAME);
        }

        private boolean readGood(Tokens text) {
            if (goods >= GOODS_MOST) {
                return text.fail(TOO_MANY);
            }
            if (!takeNewName(text)) {
                return false;
            }
            goodNames[goods] = text.name;
            goods++;
            return true;
        }

        private boolean readMan(Tokens text) {
            if (men >= MEN_MOST) {
                return text.fail(TOO_MANY);
            }
            if (!takeNewName(text)) {
                return false;
            }
            long name = text.name;
            if (!text.takeNumber(0, 1)) {
                return false;
            }
            manNames[men] = name;
            firstShores[men] = text.number;
            men++;
            return true;
        }

        /** The GOOD's number, or NONE with a FAULT. */
        int takeGood(Tokens text) {
            if (!text.takeName()) {
                return NONE;
            }
            int g = goodNamed(text.name);
            if (g == NONE) {
                text.fail(WRONG_NAME);
            }
            return g;
        }

        private int takeMan(Tokens text) {
            if (!text.takeName()) {
                return NONE;
            }
            int m = manNamed(text.name);
            if (m == NONE) {
                text.fail(WRONG_NAME);
            }
            return m;
        }

        private boolean readAmount(Tokens text, int sort) {
            int g = takeGood(text);
            if (g == NONE || !text.takeNumber(0, 1)) {
                return false;
            }
            int index = sort * SLOTS + slotOf(g, text.number);
            if ((amountsTold & 1L << index) != 0) {
                return text.fail(WRONG_NAME);
            }
            boolean isRate = sort == TOLD_EATS || sort == TOLD_MAKES;
            if (!text.takeNumber(0, isRate ? RATE_MOST : AMOUNT_MOST)) {
                return false;
            }
            amountsTold |= 1L << index;
            amounts[index] = text.number;
            return true;
        }

        private boolean readMisses(Tokens text) {
            if (missings >= MISSES_MOST) {
                return text.fail(TOO_MANY);
            }
            int m = takeMan(text);
            if (m == NONE) {
                return false;
            }
            int o = takeMan(text);
            if (o == NONE) {
                return false;
            }
            if (m == o || isMissTold(m, o)) {
                return text.fail(WRONG_NAME);
            }
            if (!text.takeNumber(0, DAYS_MOST)) {
                return false;
            }
            missers[missings] = m;
            missed[missings] = o;
            missDays[missings] = text.number;
            missings++;
            return true;
        }

        private boolean isMissTold(int m, int o) {
            for (int k = 0; k < missings; k++) {
                if (missers[k] == m && missed[k] == o) {
                    return true;
                }
            }
            return false;
        }
    }

    /** All that is so on a DAY. */
    private static final class Shores {
        final int[] stocks = new int[SLOTS];
        final int[] hoards = new int[SLOTS];
        final int[] hungers = new int[SLOTS];
        final int[] broughtTo = new int[SLOTS];
        /** NONE for the dead. */
        final int[] shoreOf = new int[MEN_MOST];
        final int[] trips = new int[MEN_MOST];
        /** Of m * MEN_MOST + o, m the higher one; of the dead it tells nothing. */
        final int[] daysApart = new int[PAIRS];
        int day;
        int emptyTrips;
        int roomUsed;

        void beginAs(Strait t) {
            for (int slot = 0; slot < SLOTS; slot++) {
                stocks[slot] = t.amountOf(TOLD_STOCK, slot);
                hoards[slot] = 0;
                hungers[slot] = 0;
                broughtTo[slot] = 0;
            }
            for (int m = 0; m < MEN_MOST; m++) {
                shoreOf[m] = t.firstShores[m];
                trips[m] = 0;
            }
            for (int pair = 0; pair < PAIRS; pair++) {
                daysApart[pair] = 0;
            }
            day = 0;
            emptyTrips = 0;
            roomUsed = 0;
        }

        void copyFrom(Shores other) {
            System.arraycopy(other.stocks, 0, stocks, 0, SLOTS);
            System.arraycopy(other.hoards, 0, hoards, 0, SLOTS);
            System.arraycopy(other.hungers, 0, hungers, 0, SLOTS);
            System.arraycopy(other.broughtTo, 0, broughtTo, 0, SLOTS);
            System.arraycopy(other.shoreOf, 0, shoreOf, 0, MEN_MOST);
            System.arraycopy(other.trips, 0, trips, 0, MEN_MOST);
            System.arraycopy(other.daysApart, 0, daysApart, 0, PAIRS);
            day = other.day;
            emptyTrips = other.emptyTrips;
            roomUsed = other.roomUsed;
        }

        boolean looksLike(Shores other) {
            for (int slot = 0; slot < SLOTS; slot++) {
                if (stocks[slot] != other.stocks[slot]) {
                    return false;
                }
            }
            for (int m = 0; m < MEN_MOST; m++) {
                if (shoreOf[m] != other.shoreOf[m]) {
                    return false;
                }
            }
            return true;
        }

        int ferryShore() {
            return day % 2;
        }

        int lackAt(Strait t, int slot) {
            return Math.max(0, t.amountOf(TOLD_WANTS, slot) - stocks[slot]);
        }

        boolean isFalse(Strait t, int slot) {
            int wanted = t.amountOf(TOLD_WANTS, slot);
            return stocks[slot] < wanted && stocks[slot] + hoards[slot] >= wanted;
        }

        int hungerInAll() {
            int sum = 0;
            for (int slot = 0; slot < SLOTS; slot++) {
                sum += hungers[slot];
            }
            return sum;
        }

        boolean isAlive(int m) {
            return shoreOf[m] != NONE;
        }

        int menOn(Strait t, int shore) {
            int bits = 0;
            for (int m = 0; m < t.men; m++) {
                if (shoreOf[m] == shore) {
                    bits |= 1 << m;
                }
            }
            return bits;
        }

        int apartOf(int m, int o) {
            return m > o ? daysApart[m * MEN_MOST + o] : daysApart[o * MEN_MOST + m];
        }

        /** Whether the k-th of the STRAIT's misses is felt now. */
        private boolean isFelt(Strait t, int k) {
            int m = t.missers[k];
            int o = t.missed[k];
            boolean bothLive = shoreOf[m] != NONE && shoreOf[o] != NONE;
            return bothLive && shoreOf[m] != shoreOf[o] && apartOf(m, o) >= t.missDays[k];
        }

        int allMissed(Strait t) {
            int bits = 0;
            for (int k = 0; k < t.missings; k++) {
                if (isFelt(t, k)) {
                    bits |= 1 << t.missed[k];
                }
            }
            return bits;
        }

        int missersOf(Strait t, int m) {
            int bits = 0;
            for (int k = 0; k < t.missings; k++) {
                if (t.missed[k] == m && isFelt(t, k)) {
                    bits |= 1 << t.missers[k];
                }
            }
            return bits;
        }

        int missedBy(Strait t, int m) {
            int bits = 0;
            for (int k = 0; k < t.missings; k++) {
                if (t.missers[k] == m && isFelt(t, k)) {
                    bits |= 1 << t.missed[k];
                }
            }
            return bits;
        }

        boolean couldBeMissed(Strait t, int m) {
            for (int k = 0; k < t.missings; k++) {
                if (t.missed[k] == m && isAlive(t.missers[k])) {
                    return true;
                }
            }
            return false;
        }

        /** What is done to slot whom, or to MAN whom: 0 if it can be, or why not. */
        int whyNot(int deed, int whom, int n) {
            switch (deed) {
                case HOARDING: return stocks[whom] < n ? 1 : 0;
                case BARING: return hoards[whom] < n ? 1 : stocks[whom] + n > STOCK_MOST ? 2 : 0;
                case WASTING: return stocks[whom] < n ? 1 : 0;
                default: return isAlive(whom) ? 0 : 1;
            }
        }

        void perform(int deed, int whom, int n) {
            if (deed == DYING) {
                shoreOf[whom] = NONE;
                return;
            }
            stocks[whom] += deed == BARING ? n : -n;
            if (deed == HOARDING) {
                hoards[whom] += n;
            } else if (deed == BARING) {
                hoards[whom] -= n;
            }
        }

        int attempt(int deed, int whom, int n) {
            int why = whyNot(deed, whom, n);
            if (why == 0) {
                perform(deed, whom, n);
            }
            return why;
        }

        void makeAndEat(Strait t) {
            for (int slot = 0; slot < 2 * t.goods; slot++) {
                int left = t.leftAfter(slot, stocks[slot]);
                if (left < 0) {
                    hungers[slot] -= left;
                }
                stocks[slot] = Math.max(0, left);
            }
        }

        void countApart(Strait t) {
            for (int m = 0; m < t.men; m++) {
                for (int o = 0; o < m; o++) {
                    int pair = m * MEN_MOST + o;
                    if (shoreOf[m] == shoreOf[o]) {
                        daysApart[pair] = 0;
                    } else {
                        daysApart[pair]++;
                    }
                }
            }
        }
    }

    /** What goes over on a DAY. */
    private static final class Ferry {
        final int[] freight = new int[GOODS_MOST];
        /** How much room is left when it is a GOOD's turn. */
        final int[] roomFor = new int[GOODS_MOST];
        int boarders;
        private int used;

        static int amountMoved(int stock, int lack, int room) {
            return Math.max(0, Math.min(stock, Math.min(lack, room)));
        }

        void plan(Strait t, Shores s) {
            int from = s.ferryShore();
            int room = s.day < ALL_OVER ? t.load : 0;
            used = 0;
            boarders = 0;
            int missed = s.allMissed(t);
            for (int m = 0; m < t.men && room - used >= ROOM_OF_A_MAN; m++) {
                if (s.shoreOf[m] == from && (missed & 1 << m) != 0) {
                    boarders |= 1 << m;
                    used += ROOM_OF_A_MAN;
                }
            }
            for (int g = 0; g < t.goods; g++) {
                int lack = s.lackAt(t, slotOf(g, 1 - from));
                roomFor[g] = room - used;
                freight[g] = amountMoved(s.stocks[slotOf(g, from)], lack, roomFor[g]);
                used += freight[g];
            }
        }

        /** How many DAYS went by. */
        int passDays(Strait t, Shores s, int n) {
            int first = s.day;
            for (int k = 0; k < n && s.day < ALL_OVER; k++) {
                plan(t, s);
                carry(t, s);
                s.makeAndEat(t);
                s.countApart(t);
                s.day++;
            }
            return s.day - first;
        }

        private void carry(Strait t, Shores s) {
            int from = s.ferryShore();
            for (int m = 0; m < t.men; m++) {
                if ((boarders & 1 << m) != 0) {
                    s.shoreOf[m] = 1 - from;
                    s.trips[m]++;
                }
            }
            for (int g = 0; g < t.goods; g++) {
                s.stocks[slotOf(g, from)] -= freight[g];
                s.stocks[slotOf(g, 1 - from)] += freight[g];
                s.broughtTo[slotOf(g, 1 - from)] += freight[g];
            }
            s.roomUsed += used;
            if (used == 0) {
                s.emptyTrips++;
            }
        }
    }

    /** What was so ahead of the latest things done, the latest last. */
    private static final class History {
        private final Shores[] kept = new Shores[KEPT_MOST];
        private int size;

        void forget() {
            size = 0;
        }

        void keep(Shores shores) {
            if (size >= KEPT_MOST) {
                dropOldest();
            }
            Shores slot = kept[size];
            if (slot == null) {
                slot = new Shores();
                kept[size] = slot;
            }
            slot.copyFrom(shores);
            size++;
        }

        /** The oldest one's place comes last, to be used again. */
        private void dropOldest() {
            Shores oldest = kept[0];
            for (int i = 1; i < KEPT_MOST; i++) {
                kept[i - 1] = kept[i];
            }
            kept[KEPT_MOST - 1] = oldest;
            size = KEPT_MOST - 1;
        }

        int takeBack(Shores shores) {
            if (size <= 0 || size > KEPT_MOST) {
                return NONE;
            }
            Shores latest = kept[size - 1];
            if (latest == null) {
                return NONE;
            }
            shores.copyFrom(latest);
            size--;
            return size;
        }
    }

    private static final class Draws {
        int x;

        int drawOf(int n) {
            x = x * 1103515245 + 12345;
            return n > 0 ? (x >>> 8) % n : 0;
        }
    }

    /** The LINES of a LOG. */
    private static final class LogText {
        final int[] deeds = new int[LINES_MOST];
        /** The slot of a GOOD on a SHORE, or a MAN. */
        final int[] whom = new int[LINES_MOST];
        final int[] amounts = new int[LINES_MOST];
        int lines;

        void readText(Tokens text, Strait t) {
            lines = 0;
            boolean goesOn = true;
            for (int k = 0; k <= LINES_MOST && goesOn; k++) {
                text.step();
                goesOn = text.kind != END && readLine(text, t) && text.takeSign(';');
            }
        }

        private boolean readLine(Tokens text, Strait t) {
            int first = text.kind;
            boolean isDeed = first >= WORD_HOARDS && first <= WORD_WASTES;
            if (!isDeed && first != WORD_DAY && first != NAME) {
                return text.fail(NO_TOKEN);
            }
            int man = first == NAME ? t.manNamed(text.name) : NONE;
            if (first == NAME && man == NONE) {
                return text.fail(WRONG_NAME);
            }
            if (lines >= LINES_MOST) {
                return text.fail(TOO_MANY);
            }
            if (isDeed) {
                return readDeed(text, t, first - WORD_HOARDS);
            }
            return first == WORD_DAY ? readDays(text) : readDeath(text, man);
        }

        private boolean readDeed(Tokens text, Strait t, int deed) {
            int g = t.takeGood(text);
            if (g == NONE || !text.takeNumber(0, 1)) {
                return false;
            }
            int slot = slotOf(g, text.number);
            return text.takeNumber(1, AMOUNT_MOST) && addLine(deed, slot, text.number);
        }

        private boolean readDays(Tokens text) {
            return text.takeNumber(1, DAYS_MOST) && addLine(PASSING, 0, text.number);
        }

        private boolean readDeath(Tokens text, int man) {
            text.step();
            return text.kind == WORD_DIES ? addLine(DYING, man, 0) : text.fail(NO_TOKEN);
        }

        private boolean addLine(int deed, int who, int n) {
            deeds[lines] = deed;
            whom[lines] = who;
            amounts[lines] = n;
            lines++;
            return true;
        }
    }

    /** A SENTENCE, each 'not', 'and' and 'or' behind what it joins. */
    private static final class Sentence {
        private static final int MOST_OPS = 2 * ONES_MOST;
        private final int[] ops = new int[MOST_OPS];
        /** The SHORE or the sign. */
        private final int[] firsts = new int[MOST_OPS];
        private final int[] numbers = new int[MOST_OPS];
        private int size;
        int ones;
        boolean isSaid;

        void copyFrom(Sentence other) {
            System.arraycopy(other.ops, 0, ops, 0, MOST_OPS);
            System.arraycopy(other.firsts, 0, firsts, 0, MOST_OPS);
            System.arraycopy(other.numbers, 0, numbers, 0, MOST_OPS);
            size = other.size;
            ones = other.ones;
            isSaid = other.isSaid;
        }

        void readText(Tokens text) {
            size = 0;
            ones = 0;
            text.step();
            isSaid = readCond(text, 1) && (text.kind == END || text.fail(NO_TOKEN));
        }

        /** These three begin at the TOKEN read last, and end with the one behind them read. */
        private boolean readCond(Tokens text, int within) {
            if (!readAll(text, within)) {
                return false;
            }
            for (int k = 0; k < ONES_MOST && text.kind == WORD_OR; k++) {
                text.step();
                if (!readAll(text, within) || !addOp(WORD_OR, 0, 0)) {
                    return false;
                }
            }
            return true;
        }

        private boolean readAll(Tokens text, int within) {
            if (!readOne(text, within)) {
                return false;
            }
            for (int k = 0; k < ONES_MOST && text.kind == WORD_AND; k++) {
                text.step();
                if (!readOne(text, within) || !addOp(WORD_AND, 0, 0)) {
                    return false;
                }
            }
            return true;
        }

        private boolean readOne(Tokens text, int within) {
            boolean isBracket = text.kind == '(';
            boolean isOne = isBracket || text.kind >= WORD_NOT && text.kind <= WORD_NUMBER;
            if (!isOne) {
                return text.fail(NO_TOKEN);
            }
            if (ones >= ONES_MOST || within > WITHIN_MOST) {
                return text.fail(TOO_MANY);
            }
            ones++;
            if (isBracket) {
                return readBracket(text, within);
            }
            int word = text.kind;
            if (word == WORD_NOT) {
                text.step();
                return readOne(text, within + 1) && addOp(WORD_NOT, 0, 0);
            }
            return word <= WORD_FALSE ? readOnShore(text, word) : readCompared(text, word);
        }

        private boolean readBracket(Tokens text, int within) {
            text.step();
            if (!readCond(text, within + 1)) {
                return false;
            }
            if (text.kind != ')') {
                return text.fail(NO_TOKEN);
            }
            text.step();
            return true;
        }

        private boolean readOnShore(Tokens text, int word) {
            if (!text.takeNumber(0, 1)) {
                return false;
            }
            int shore = text.number;
            text.step();
            return addOp(word, shore, 0);
        }

        private boolean readCompared(Tokens text, int word) {
            text.step();
            int sign = text.kind;
            if (sign != '<' && sign != '=' && sign != '>') {
                return text.fail(NO_TOKEN);
            }
            if (!text.takeNumber(0, STOCK_MOST)) {
                return false;
            }
            int number = text.number;
            text.step();
            return addOp(word, sign, number);
        }

        private boolean addOp(int op, int first, int number) {
            if (size >= MOST_OPS) {
                return false;
            }
            ops[size] = op;
            firsts[size] = first;
            numbers[size] = number;
            size++;
            return true;
        }

        /** What holds so far lies in the bits, the latest lowest; there are at most ONES_MOST. */
        boolean holdsOf(int g, Strait t, Shores s) {
            int bits = 0;
            for (int i = 0; i < size; i++) {
                int latest = bits & 1;
                if (ops[i] == WORD_NOT) {
                    bits ^= 1;
                } else if (ops[i] == WORD_AND) {
                    bits = latest == 1 ? bits >> 1 : bits >> 1 & ~1;
                } else if (ops[i] == WORD_OR) {
                    bits = bits >> 1 | latest;
                } else {
                    bits = bits << 1 | (isSo(i, g, t, s) ? 1 : 0);
                }
            }
            return (bits & 1) == 1;
        }

        private boolean isSo(int i, int g, Strait t, Shores s) {
            return ops[i] <= WORD_FALSE
                ? isSoThere(ops[i], slotOf(g, firsts[i]), t, s)
                : isSoCompared(valueOf(ops[i], g, s), firsts[i], numbers[i]);
        }

        private static boolean isSoThere(int op, int slot, Strait t, Shores s) {
            switch (op) {
                case WORD_LACKED: return s.lackAt(t, slot) > 0;
                case WORD_HOARDED: return s.hoards[slot] > 0;
                case WORD_MADE: return t.amountOf(TOLD_MAKES, slot) > 0;
                case WORD_EATEN: return t.amountOf(TOLD_EATS, slot) > 0;
                default: return s.isFalse(t, slot);
            }
        }

        private static int valueOf(int op, int g, Shores s) {
            switch (op) {
                case WORD_NEAR: return s.stocks[slotOf(g, 0)];
                case WORD_FAR: return s.stocks[slotOf(g, 1)];
                case WORD_CROSSED: return s.broughtTo[slotOf(g, 0)] + s.broughtTo[slotOf(g, 1)];
                default: return g;
            }
        }

        private static boolean isSoCompared(int value, int sign, int number) {
            return sign == '<' ? value < number : sign == '=' ? value == number : value > number;
        }
    }

    /** What is kept in one place. */
    private static final class Image {
        final Strait strait = new Strait();
        final Shores shores = new Shores();
        final Sentence sentence = new Sentence();
    }
}
