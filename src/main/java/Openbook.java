/** An exchange whole, with a sequencer from whose log all is made again. README.md tells of its parts. */
public final class Openbook {
    public static final int NONE = -100000;
    public static final int TIME = 0, SHARES = 1, SIZE = 2;
    public static final int GONE = 0, BOOKED = 1, WAITING = 2;

    // No loop comes near this many rounds: it only makes their end plain to see.
    private static final int MANY = 1000000;

    private static final int MOST_EVENTS = 512, MOST_LIVE = 40, MOST_KEPT_TRADES = 60;
    private static final int MEMBERS = 4, CONTRACTS = 4, SCENARIOS = 4, BOOKS = 6;
    private static final int TRADERS = 8, HOUSE = 8, ACCOUNTS = 9;
    private static final int MOST_LOTS = 50, MOST_PRICE = 9999, MOST_LIMIT = 999;
    private static final int FIRST_PRICE = 100, STRIKE = 100, RIGHT = 3;
    private static final int AUCTION_TICKS = 5;
    private static final int MOST_POSITION = 1000000;

    private static final int PLAIN = 0, PEG = 1, STOP = 2, QUOTE = 3;

    // What an event is, at the head of its row in the log.
    private static final int LIMIT_EVENT = 1, MARKET_EVENT = 2, ICEBERG_EVENT = 3, PEG_EVENT = 4;
    private static final int STOP_EVENT = 5, QUOTE_EVENT = 6, CANCEL_EVENT = 7, RULE_EVENT = 8;
    private static final int BAND_EVENT = 9, PROTECTION_EVENT = 10, MOST_EVENT = 11, AUCTION_EVENT = 12;
    private static final int PASS_EVENT = 13, DAY_EVENT = 14, BUST_EVENT = 15, ADJUST_EVENT = 16;
    private static final int GIVE_UP_EVENT = 17, ALLOT_EVENT = 18, EXERCISE_EVENT = 19;
    private static final int CONVERT_EVENT = 20, MOVE_EVENT = 21, HAIRCUT_EVENT = 22, PAY_EVENT = 23;
    private static final int FUND_EVENT = 24, FAIL_EVENT = 25, BID_EVENT = 26, CLOSE_OUT_EVENT = 27;
    private static final int ROW = 7;

    private final Exchange live = new Exchange();
    // Follows the log on its own, so that what is found from the log owes nothing to the live one.
    private final Exchange follower = new Exchange();
    private final int[] log = new int[MOST_EVENTS * ROW];
    private int told;
    private int kept;
    private int followed;

    public Openbook() {
    }

    // ---- orders

    public int limit(int account, int book, int price, int quantity, int least, int life)
            throws IndexOutOfBoundsException, IllegalArgumentException, IllegalStateException {
        needPlace(isTrader(account) && isBook(book));
        needRange(live.floor.bookAt(book).hasPrice(price) && isQuantity(quantity)
                && least >= 0 && least <= Math.abs(quantity) && (life == NONE || isWithin(life, 0, 9)));
        boolean collects = live.floor.bookAt(book).inAuction;
        needState(live.admits(account, book, quantity) && !(collects && (life == NONE || least > 0)));
        return play(live, enter(LIMIT_EVENT, account, book, price, quantity, least, life));
    }

    public int market(int account, int book, int quantity)
            throws IndexOutOfBoundsException, IllegalArgumentException, IllegalStateException {
        needPlace(isTrader(account) && isBook(book));
        needRange(isQuantity(quantity));
        needState(live.admits(account, book, quantity));
        return play(live, enter(MARKET_EVENT, account, book, quantity, 0, 0, 0));
    }

    public int iceberg(int account, int book, int price, int quantity, int show)
            throws IndexOutOfBoundsException, IllegalArgumentException, IllegalStateException {
        needPlace(isTrader(account) && isBook(book));
        needRange(live.floor.bookAt(book).hasPrice(price) && isQuantity(quantity)
                && isWithin(show, 1, Math.abs(quantity)));
        needState(live.admits(account, book, quantity));
        return play(live, enter(ICEBERG_EVENT, account, book, price, quantity, show, 0));
    }

    public int peg(int account, int book, int price, int quantity, int offset)
            throws IndexOutOfBoundsException, IllegalArgumentException, IllegalStateException {
        needPlace(isTrader(account) && isBook(book));
        needRange(live.floor.bookAt(book).hasPrice(price) && isQuantity(quantity) && isWithin(offset, 0, 99));
        needState(live.admits(account, book, quantity));
        return play(live, enter(PEG_EVENT, account, book, price, quantity, offset, 0));
    }

    public int stop(int account, int book, int trigger, int price, int quantity)
            throws IndexOutOfBoundsException, IllegalArgumentException, IllegalStateException {
        needPlace(isTrader(account) && isContract(book));
        needRange(isWithin(trigger, 1, MOST_PRICE) && isWithin(price, 0, MOST_PRICE) && isQuantity(quantity));
        needState(live.admits(account, book, quantity));
        return play(live, enter(STOP_EVENT, account, book, trigger, price, quantity, 0));
    }

    public int quote(int account, int book, int bid, int ask, int quantity)
            throws IndexOutOfBoundsException, IllegalArgumentException, IllegalStateException {
        needPlace(isTrader(account) && isBook(book));
        Book there = live.floor.bookAt(book);
        needRange(there.hasPrice(bid) && there.hasPrice(ask) && ask > bid && isWithin(quantity, 1, MOST_LOTS));
        needState(live.floor.countLive() + 2 <= MOST_LIVE
                && live.admits(account, book, quantity) && live.admits(account, book, -quantity));
        return play(live, enter(QUOTE_EVENT, account, book, bid, ask, quantity, 0));
    }

    public int cancel(int order) throws IndexOutOfBoundsException, IllegalStateException {
        Order there = live.floor.find(order);
        if (there == null) {
            throw new IndexOutOfBoundsException("no such live order");
        }
        needState(!there.book.isFrozen(live.floor.now));
        return play(live, enter(CANCEL_EVENT, order, 0, 0, 0, 0, 0));
    }

    // ---- rules

    public int setRule(int book, int rule, int top, int self)
            throws IndexOutOfBoundsException, IllegalArgumentException {
        needPlace(isBook(book));
        needRange(isWithin(rule, TIME, SIZE) && isWithin(top, 0, MOST_LOTS) && isWithin(self, 0, 2));
        return play(live, enter(RULE_EVENT, book, rule, top, self, 0, 0));
    }

    public int setBand(int book, int width) throws IndexOutOfBoundsException, IllegalArgumentException {
        needPlace(isBook(book));
        needRange(isWithin(width, 0, MOST_PRICE));
        return play(live, enter(BAND_EVENT, book, width, 0, 0, 0, 0));
    }

    public int setProtection(int account, int lots) throws IndexOutOfBoundsException, IllegalArgumentException {
        needPlace(isTrader(account));
        needRange(isWithin(lots, 0, 999));
        return play(live, enter(PROTECTION_EVENT, account, lots, 0, 0, 0, 0));
    }

    public int setLimit(int account, int contract, int most)
            throws IndexOutOfBoundsException, IllegalArgumentException {
        needPlace(isTrader(account) && isContract(contract));
        needRange(isWithin(most, 0, MOST_LIMIT));
        return play(live, enter(MOST_EVENT, account, contract, most, 0, 0, 0));
    }

    // ---- time

    public int auction(int book, int ticks, int freeze, int extra)
            throws IndexOutOfBoundsException, IllegalArgumentException, IllegalStateException {
        needPlace(isBook(book));
        needRange(isWithin(ticks, 1, 20) && isWithin(freeze, 0, ticks) && isWithin(extra, 0, 9));
        needState(!live.floor.bookAt(book).inAuction);
        return play(live, enter(AUCTION_EVENT, book, ticks, freeze, extra, 0, 0));
    }

    public int pass(int ticks) throws IllegalArgumentException {
        needRange(isWithin(ticks, 1, 20));
        return play(live, enter(PASS_EVENT, ticks, 0, 0, 0, 0, 0));
    }

    public int endDay() throws IllegalStateException {
        needState(!live.floor.hasAuction());
        return play(live, enter(DAY_EVENT, 0, 0, 0, 0, 0, 0));
    }

    // ---- later

    public int bust(int trade) throws IndexOutOfBoundsException, IllegalStateException {
        needState(!keptDeal(trade).busted);
        return play(live, enter(BUST_EVENT, trade, 0, 0, 0, 0, 0));
    }

    public int adjust(int trade, int price)
            throws IndexOutOfBoundsException, IllegalArgumentException, IllegalStateException {
        Deal deal = keptDeal(trade);
        needRange(deal.book.hasPrice(price));
        needState(!deal.busted);
        return play(live, enter(ADJUST_EVENT, trade, price, 0, 0, 0, 0));
    }

    public int giveUp(int trade, boolean isBuyer, int to) throws IndexOutOfBoundsException, IllegalStateException {
        Deal deal = keptDeal(trade);
        needPlace(isTrader(to));
        needState(!deal.busted && deal.buyer.index != to && deal.seller.index != to);
        return play(live, enter(GIVE_UP_EVENT, trade, isBuyer ? 1 : 0, to, 0, 0, 0));
    }

    public int allot(int account, int to, int contract, int quantity)
            throws IndexOutOfBoundsException, IllegalArgumentException, IllegalStateException {
        needPlace(isTrader(account) && isTrader(to) && isContract(contract));
        needRange(account != to && quantity != 0 && isWithin(quantity, -999, 999));
        needState(live.ledger.canAllot(account, contract, quantity));
        return play(live, enter(ALLOT_EVENT, account, to, contract, quantity, 0, 0));
    }

    public int exercise(int account, int quantity, int draw)
            throws IndexOutOfBoundsException, IllegalArgumentException, IllegalStateException {
        needPlace(isWithin(account, 0, HOUSE));
        needRange(isWithin(quantity, 1, 99) && isWithin(draw, 0, 7874));
        needState(live.ledger.accountAt(account).holds(RIGHT) >= quantity);
        return play(live, enter(EXERCISE_EVENT, account, quantity, draw, 0, 0, 0));
    }

    public int convert(int contract, int numerator, int denominator)
            throws IndexOutOfBoundsException, IllegalArgumentException, IllegalStateException {
        needPlace(isWithin(contract, 0, 2));
        needRange(isWithin(numerator, 1, 9) && isWithin(denominator, 1, 9));
        needState(live.ledger.canConvert(contract, numerator, denominator));
        return play(live, enter(CONVERT_EVENT, contract, numerator, denominator, 0, 0, 0));
    }

    // ---- margin and defaults

    public int setMove(int scenario, int contract, int move)
            throws IndexOutOfBoundsException, IllegalArgumentException {
        needPlace(isWithin(scenario, 0, SCENARIOS - 1) && isContract(contract));
        needRange(isWithin(move, -99, 99));
        return play(live, enter(MOVE_EVENT, scenario, contract, move, 0, 0, 0));
    }

    public int setHaircut(int percent) throws IllegalArgumentException {
        needRange(isWithin(percent, 0, 100));
        return play(live, enter(HAIRCUT_EVENT, percent, 0, 0, 0, 0, 0));
    }

    public int pay(int member, int money, int units)
            throws IndexOutOfBoundsException, IllegalArgumentException, IllegalStateException {
        needPlace(isMember(member));
        needRange(isWithin(money, -9999, 9999) && isWithin(units, -99, 99));
        needState(live.clearing.canPay(member, money, units));
        return play(live, enter(PAY_EVENT, member, money, units, 0, 0, 0));
    }

    public int setFund(int member, int amount)
            throws IndexOutOfBoundsException, IllegalArgumentException, IllegalStateException {
        needPlace(isMember(member));
        needRange(isWithin(amount, 0, 9999));
        needState(!live.clearing.memberAt(member).failed);
        return play(live, enter(FUND_EVENT, member, amount, 0, 0, 0, 0));
    }

    public int fail(int member) throws IndexOutOfBoundsException, IllegalStateException {
        needPlace(isMember(member));
        needState(live.clearing.canFail(member));
        return play(live, enter(FAIL_EVENT, member, 0, 0, 0, 0, 0));
    }

    public int bid(int member, int amount)
            throws IndexOutOfBoundsException, IllegalArgumentException, IllegalStateException {
        needPlace(isMember(member));
        needRange(isWithin(amount, -9999, 9999));
        needState(live.clearing.open != NONE && !live.clearing.memberAt(member).failed);
        return play(live, enter(BID_EVENT, member, amount, 0, 0, 0, 0));
    }

    public int closeOut() throws IllegalStateException {
        needState(live.clearing.open != NONE);
        return play(live, enter(CLOSE_OUT_EVENT, 0, 0, 0, 0, 0, 0));
    }

    // ---- the log

    public int keep() {
        kept = told;
        return kept;
    }

    public int failOver() {
        int lost = told - kept;
        told = kept;
        live.restore();
        for (int event = 0; event < told; event++) {
            play(live, event);
        }
        if (followed > told) {
            follower.restore();
            followed = 0;
        }
        return lost;
    }

    public int events() {
        return told;
    }

    public int positionByLog(int account, int contract) throws IndexOutOfBoundsException {
        needPlace(isWithin(account, 0, HOUSE) && isContract(contract));
        for (; followed < told; followed++) {
            play(follower, followed);
        }
        return follower.ledger.accountAt(account).holds(contract);
    }

    public int bestByLog(int book, boolean toBuy) throws IndexOutOfBoundsException {
        needPlace(isBook(book));
        for (; followed < told; followed++) {
            play(follower, followed);
        }
        return follower.floor.bestPrice(follower.floor.bookAt(book), toBuy, true);
    }

    // ---- what is asked

    public int best(int book, boolean toBuy) throws IndexOutOfBoundsException {
        needPlace(isBook(book));
        return live.floor.bestPrice(live.floor.bookAt(book), toBuy, true);
    }

    public int shown(int book, boolean toBuy, int price) throws IndexOutOfBoundsException {
        needPlace(isBook(book));
        return live.floor.sumShown(live.floor.bookAt(book), toBuy, price);
    }

    public int stateOf(int order) {
        Order there = live.floor.find(order);
        return there == null ? GONE : there.state;
    }

    public int rest(int order) throws IndexOutOfBoundsException {
        Order there = live.floor.find(order);
        if (there == null) {
            throw new IndexOutOfBoundsException("no such live order");
        }
        return there.rest;
    }

    public int priceOf(int order) throws IndexOutOfBoundsException {
        Order there = live.floor.find(order);
        if (there == null) {
            throw new IndexOutOfBoundsException("no such live order");
        }
        return there.price;
    }

    public int last(int book, boolean reference) throws IndexOutOfBoundsException {
        needPlace(isBook(book));
        Book there = live.floor.bookAt(book);
        return reference ? there.reference : there.last;
    }

    public int endOf(int book) throws IndexOutOfBoundsException {
        needPlace(isBook(book));
        Book there = live.floor.bookAt(book);
        return there.inAuction ? there.end : NONE;
    }

    public int indicated(int book, boolean quantity) throws IndexOutOfBoundsException {
        needPlace(isBook(book));
        Book there = live.floor.bookAt(book);
        int price = there.inAuction ? live.matcher.findPrice(there) : NONE;
        if (quantity) {
            return price == NONE ? 0 : live.matcher.volumeAt(there, price);
        }
        return price;
    }

    public int trades() {
        return live.ledger.count;
    }

    public int trade(int trade, int what) throws IndexOutOfBoundsException, IllegalArgumentException {
        Deal deal = keptDeal(trade);
        needRange(isWithin(what, 0, 5));
        return deal.tell(what);
    }

    public int position(int account, int contract) throws IndexOutOfBoundsException {
        needPlace(isWithin(account, 0, HOUSE) && isContract(contract));
        return live.ledger.accountAt(account).holds(contract);
    }

    public long cash(int account) throws IndexOutOfBoundsException {
        needPlace(isWithin(account, 0, HOUSE));
        return live.ledger.accountAt(account).cash;
    }

    public int quoted(int account) throws IndexOutOfBoundsException {
        needPlace(isTrader(account));
        return live.ledger.accountAt(account).quotedTicks;
    }

    public long member(int member, int what) throws IndexOutOfBoundsException, IllegalArgumentException {
        needPlace(isMember(member));
        needRange(isWithin(what, 0, 6));
        return live.clearing.tell(member, what);
    }

    public int stake() {
        return live.clearing.stake;
    }

    // ---- what all calls share

    private static void needPlace(boolean there) {
        if (!there) {
            throw new IndexOutOfBoundsException("no such thing");
        }
    }

    private static void needRange(boolean within) {
        if (!within) {
            throw new IllegalArgumentException("out of range");
        }
    }

    private static void needState(boolean fits) {
        if (!fits) {
            throw new IllegalStateException("not as things stand");
        }
    }

    private static boolean isWithin(int value, int least, int most) {
        return value >= least && value <= most;
    }

    private static boolean isTrader(int account) {
        return isWithin(account, 0, TRADERS - 1);
    }

    private static boolean isBook(int book) {
        return isWithin(book, 0, BOOKS - 1);
    }

    private static boolean isContract(int contract) {
        return isWithin(contract, 0, CONTRACTS - 1);
    }

    private static boolean isMember(int member) {
        return isWithin(member, 0, MEMBERS - 1);
    }

    private static boolean isQuantity(int quantity) {
        return quantity != 0 && isWithin(quantity, -MOST_LOTS, MOST_LOTS);
    }

    private Deal keptDeal(int number) {
        Deal deal = live.ledger.find(number);
        if (deal == null) {
            throw new IndexOutOfBoundsException("no such kept trade");
        }
        return deal;
    }

    /** Writes a call that cannot throw any more into the log; tells its place there, NONE when the log is full. */
    private int enter(int event, int a, int b, int c, int d, int e, int f) {
        int at = told * ROW;
        if (at < 0 || at + ROW > log.length) {
            return NONE;
        }
        log[at] = event;
        log[at + 1] = a;
        log[at + 2] = b;
        log[at + 3] = c;
        log[at + 4] = d;
        log[at + 5] = e;
        log[at + 6] = f;
        told++;
        return told - 1;
    }

    /** Does what a row of the log says, and the WORK behind it: the live exchange goes the same way as any replay. */
    private int play(Exchange x, int event) {
        int at = event * ROW;
        if (event < 0 || at < 0 || at + ROW > log.length) {
            return 0;
        }
        int a = log[at + 1];
        int b = log[at + 2];
        int c = log[at + 3];
        int d = log[at + 4];
        int e = log[at + 5];
        int f = log[at + 6];
        int answer = 0;
        switch (log[at]) {
            case LIMIT_EVENT: answer = x.tellLimit(a, b, c, d, e, f); break;
            case MARKET_EVENT: answer = x.tellMarket(a, b, c); break;
            case ICEBERG_EVENT: answer = x.tellIceberg(a, b, c, d, e); break;
            case PEG_EVENT: answer = x.tellPeg(a, b, c, d, e); break;
            case STOP_EVENT: answer = x.tellStop(a, b, c, d, e); break;
            case QUOTE_EVENT: answer = x.tellQuote(a, b, c, d, e); break;
            case CANCEL_EVENT: answer = x.floor.withdraw(a); break;
            case RULE_EVENT: answer = x.floor.bookAt(a).changeRule(b, c, d); break;
            case BAND_EVENT: answer = x.floor.bookAt(a).changeBand(b); break;
            case PROTECTION_EVENT: answer = x.ledger.accountAt(a).changeProtection(b); break;
            case MOST_EVENT: answer = x.ledger.accountAt(a).changeLimit(b, c); break;
            case AUCTION_EVENT: answer = x.floor.beginAuction(x.floor.bookAt(a), b + d, c); break;
            case PASS_EVENT: answer = x.letPass(a); break;
            case DAY_EVENT: answer = x.floor.turnDay(); break;
            case BUST_EVENT: answer = x.undo(a); break;
            case ADJUST_EVENT: answer = x.ledger.reprice(a, b); break;
            case GIVE_UP_EVENT: answer = x.ledger.replaceSide(a, b == 1, c); break;
            case ALLOT_EVENT: answer = x.ledger.allotLots(a, b, c, d); break;
            case EXERCISE_EVENT: answer = x.ledger.exerciseLots(a, b, c); break;
            case CONVERT_EVENT: answer = x.convertContract(a, b, c); break;
            case MOVE_EVENT: answer = x.clearing.changeMove(a, b, c); break;
            case HAIRCUT_EVENT: answer = x.clearing.changeHaircut(a); break;
            case PAY_EVENT: answer = x.clearing.bring(a, b, c); break;
            case FUND_EVENT: answer = x.clearing.changeFund(a, b); break;
            case FAIL_EVENT: answer = x.failMember(a); break;
            case BID_EVENT: answer = x.clearing.takeBid(a, b); break;
            case CLOSE_OUT_EVENT: answer = x.clearing.closePortfolio(); break;
            default: break;
        }
        x.work();
        return answer;
    }

    /** A book, for one contract or for a spread of two. */
    private static final class Book {
        final int index;
        final int bought;
        final int sold;
        int last;
        int reference;
        boolean inAuction;
        boolean extended;
        int end;
        int freeze;
        int rule;
        int top;
        int self;
        int band;

        Book(int index) {
            this.index = index;
            bought = index < CONTRACTS ? index : index - CONTRACTS;
            sold = index < CONTRACTS ? NONE : index - CONTRACTS + 1;
        }

        void restore() {
            last = isSpread() ? 0 : FIRST_PRICE;
            reference = last;
            inAuction = false;
            extended = false;
            end = 0;
            freeze = 0;
            rule = TIME;
            top = 0;
            self = 0;
            band = 0;
        }

        boolean isSpread() {
            return sold != NONE;
        }

        boolean hasPrice(int price) {
            return price <= MOST_PRICE && price >= (isSpread() ? -MOST_PRICE : 1);
        }

        boolean hasContract(int contract) {
            return bought == contract || sold == contract;
        }

        boolean isBeyondBand(int price) {
            return band > 0 && Math.abs(price - reference) > band;
        }

        boolean isFrozen(int now) {
            return inAuction && now >= end - freeze;
        }

        int changeRule(int newRule, int newTop, int newSelf) {
            int before = rule;
            rule = newRule;
            top = newTop;
            self = newSelf;
            return before;
        }

        int changeBand(int width) {
            int before = band;
            band = width;
            return before;
        }
    }

    /** An account, of a member or of the HOUSE. */
    private static final class Account {
        final int index;
        final int member;
        final int[] positions = new int[CONTRACTS];
        final int[] limits = new int[CONTRACTS];
        long cash;
        int protection;
        int fallen;
        boolean taken;
        int quotedTicks;

        Account(int index) {
            this.index = index;
            member = index / 2;
        }

        void restore() {
            for (int contract = 0; contract < positions.length && contract < limits.length; contract++) {
                positions[contract] = 0;
                limits[contract] = MOST_LIMIT;
            }
            cash = 0;
            protection = 0;
            fallen = 0;
            taken = false;
            quotedTicks = 0;
        }

        int holds(int contract) {
            return contract >= 0 && contract < positions.length ? positions[contract] : 0;
        }

        int limitOf(int contract) {
            return contract >= 0 && contract < limits.length ? limits[contract] : 0;
        }

        void put(int contract, int lots) {
            if (contract >= 0 && contract < positions.length) {
                positions[contract] = lots;
            }
        }

        /** Buys in a book; below 0 lots it sells. */
        void take(Book book, int lots, int price) {
            if (book.bought >= 0 && book.bought < positions.length) {
                positions[book.bought] += lots;
            }
            if (book.sold >= 0 && book.sold < positions.length) {
                positions[book.sold] -= lots;
            }
            cash -= (long) lots * price;
        }

        int changeProtection(int lots) {
            int before = protection;
            protection = lots;
            return before;
        }

        int changeLimit(int contract, int most) {
            int before = limitOf(contract);
            if (contract >= 0 && contract < limits.length) {
                limits[contract] = most;
            }
            return before;
        }
    }

    /** An order; the object serves another order when this one is gone. */
    private static final class Order {
        int number;
        int kind;
        int state;
        Account owner;
        Book book;
        boolean buys;
        // NONE takes any price.
        int limit;
        // Where it is booked: that of a peg differs from its limit.
        int price;
        int life;
        int rest;
        int show;
        int shows;
        int turn;
        int offset;
        int trigger;
        int cause;
        boolean traded;

        Order(Account owner, Book book) {
            this.owner = owner;
            this.book = book;
        }

        void begin(int newNumber, Account newOwner, Book newBook, int newLimit, int quantity, int lastDay) {
            number = newNumber;
            kind = PLAIN;
            state = WAITING;
            owner = newOwner;
            book = newBook;
            buys = quantity > 0;
            limit = newLimit;
            price = NONE;
            life = lastDay;
            rest = Math.abs(quantity);
            show = rest;
            shows = 0;
            turn = 0;
            offset = 0;
            trigger = 0;
            cause = NONE;
            traded = false;
        }

        boolean standsIn(Book there, boolean toBuy) {
            return state == BOOKED && book == there && buys == toBuy;
        }

        boolean allows(int at) {
            return limit == NONE || (buys ? at <= limit : at >= limit);
        }

        boolean isBetter(int one, int other) {
            return buys ? one > other : one < other;
        }

        boolean addsTo(int contract, boolean byBuying) {
            return book.bought == contract && buys == byBuying || book.sold == contract && buys != byBuying;
        }

        boolean isDue() {
            return kind == STOP && state == WAITING && !book.inAuction
                    && (buys ? book.last >= trigger : book.last <= trigger);
        }

        void hold() {
            state = WAITING;
            price = NONE;
        }

        int showable() {
            return Math.min(show, rest);
        }

        /** Its rest falls by a trade; it stays where it is even if it shows nothing then. */
        void fall(int lots) {
            rest -= lots;
            shows -= lots;
            traded = true;
            if (rest <= 0) {
                state = GONE;
            }
        }
    }

    /** A trade; the object serves another trade when this one is not kept any more. */
    private static final class Deal {
        Book book;
        Account buyer;
        Account seller;
        int price;
        int lots;
        boolean busted;
        boolean kept;

        Deal(Book book, Account anybody) {
            this.book = book;
            buyer = anybody;
            seller = anybody;
        }

        void fill(Book newBook, Account newBuyer, Account newSeller, int newPrice, int newLots) {
            book = newBook;
            buyer = newBuyer;
            seller = newSeller;
            price = newPrice;
            lots = newLots;
            busted = false;
            kept = true;
        }

        boolean counts() {
            return kept && !busted;
        }

        int tell(int what) {
            switch (what) {
                case 0: return book.index;
                case 1: return buyer.index;
                case 2: return seller.index;
                case 3: return price;
                case 4: return lots;
                default: return busted ? 1 : 0;
            }
        }
    }

    /** The accounts, the trades that are kept, and what comes of them later. */
    private static final class Ledger {
        final Account[] accounts = new Account[ACCOUNTS];
        final Deal[] deals = new Deal[MOST_KEPT_TRADES];
        int count;

        Ledger(Book book) {
            for (int index = 0; index < accounts.length; index++) {
                accounts[index] = new Account(index);
            }
            for (int index = 0; index < deals.length; index++) {
                deals[index] = new Deal(book, accounts[HOUSE]);
            }
        }

        void restore() {
            for (Account account : accounts) {
                account.restore();
            }
            for (Deal deal : deals) {
                deal.kept = false;
            }
            count = 0;
        }

        Account accountAt(int index) {
            return accounts[index >= 0 && index < accounts.length ? index : HOUSE];
        }

        void record(Book book, Account buyer, Account seller, int price, int lots) {
            int place = count % MOST_KEPT_TRADES;
            if (place < 0 || place >= deals.length) {
                return;
            }
            deals[place].fill(book, buyer, seller, price, lots);
            count++;
            book.last = price;
            buyer.take(book, lots, price);
            seller.take(book, -lots, price);
        }

        /** Finds a trade that is kept; null if it is not. */
        Deal find(int number) {
            if (number < 0 || number >= count || number < count - MOST_KEPT_TRADES) {
                return null;
            }
            int place = number % MOST_KEPT_TRADES;
            if (place < 0 || place >= deals.length) {
                return null;
            }
            Deal deal = deals[place];
            return deal.kept ? deal : null;
        }

        /** The number of the latest trade of a book that is kept and was not busted; NONE without one. */
        int latestOf(Book book) {
            int oldest = Math.max(0, count - MOST_KEPT_TRADES);
            for (int number = count - 1; number >= oldest; number--) {
                Deal deal = find(number);
                if (deal != null && deal.book == book && !deal.busted) {
                    return number;
                }
            }
            return NONE;
        }

        /** Undoes a trade in positions and cash; the last price becomes that of the one that is the latest then. */
        int reverse(int number) {
            Deal deal = find(number);
            if (deal == null) {
                return 0;
            }
            Book book = deal.book;
            boolean wasLatest = latestOf(book) == number;
            deal.busted = true;
            deal.buyer.take(book, -deal.lots, deal.price);
            deal.seller.take(book, deal.lots, deal.price);
            if (wasLatest) {
                Deal latest = find(latestOf(book));
                book.last = latest == null ? book.reference : latest.price;
            }
            return book.last;
        }

        int reprice(int number, int price) {
            Deal deal = find(number);
            if (deal == null) {
                return 0;
            }
            int before = deal.price;
            long more = (long) deal.lots * (price - before);
            deal.price = price;
            deal.buyer.cash -= more;
            deal.seller.cash += more;
            if (latestOf(deal.book) == number) {
                deal.book.last = price;
            }
            return before;
        }

        int replaceSide(int number, boolean isBuyer, int to) {
            Deal deal = find(number);
            if (deal == null) {
                return 0;
            }
            Account before = isBuyer ? deal.buyer : deal.seller;
            Account after = accountAt(to);
            int lots = isBuyer ? deal.lots : -deal.lots;
            before.take(deal.book, -lots, deal.price);
            after.take(deal.book, lots, deal.price);
            if (isBuyer) {
                deal.buyer = after;
            } else {
                deal.seller = after;
            }
            return before.index;
        }

        /** The average price at which an account bought or sold a contract in its book; NONE without a trade. */
        int averageOf(Account account, int contract, boolean asBuyer) {
            long worth = 0;
            long lots = 0;
            for (Deal deal : deals) {
                Account side = asBuyer ? deal.buyer : deal.seller;
                if (deal.counts() && deal.book.index == contract && side == account) {
                    worth += (long) deal.price * deal.lots;
                    lots += deal.lots;
                }
            }
            return lots > 0 ? (int) Math.floorDiv(worth, lots) : NONE;
        }

        boolean canAllot(int account, int contract, int quantity) {
            Account from = accountAt(account);
            int position = from.holds(contract);
            boolean isGreatEnough = quantity > 0 ? position >= quantity : position <= quantity;
            return isGreatEnough && averageOf(from, contract, quantity > 0) != NONE;
        }

        int allotLots(int account, int to, int contract, int quantity) {
            Account from = accountAt(account);
            Account into = accountAt(to);
            int average = averageOf(from, contract, quantity > 0);
            from.put(contract, from.holds(contract) - quantity);
            into.put(contract, into.holds(contract) + quantity);
            from.cash += (long) quantity * average;
            into.cash -= (long) quantity * average;
            return average;
        }

        int exerciseLots(int account, int quantity, int draw) {
            Account from = accountAt(account);
            from.put(RIGHT, from.holds(RIGHT) - quantity);
            from.put(0, from.holds(0) + quantity);
            from.cash -= (long) quantity * STRIKE;
            int assigned = 0;
            int lot = draw;
            for (int done = 0; done < quantity; done++) {
                lot = Math.floorMod(421 * lot + 1663, 7875);
                assigned = assign(lot);
            }
            return assigned;
        }

        private int assign(int lot) {
            long all = 0;
            for (Account account : accounts) {
                all += Math.max(0, -account.holds(RIGHT));
            }
            if (all <= 0) {
                return 0;
            }
            long left = lot % all;
            for (Account account : accounts) {
                int lacks = Math.max(0, -account.holds(RIGHT));
                if (left < lacks) {
                    account.put(RIGHT, account.holds(RIGHT) + 1);
                    account.put(0, account.holds(0) - 1);
                    account.cash += STRIKE;
                    return account.index;
                }
                left -= lacks;
            }
            return 0;
        }

        boolean canConvert(int contract, int numerator, int denominator) {
            for (int index = 0; index < TRADERS; index++) {
                if (Math.abs(scaled(accountAt(index).holds(contract), numerator, denominator)) > MOST_POSITION) {
                    return false;
                }
            }
            return true;
        }

        private static long scaled(int position, int numerator, int denominator) {
            return denominator > 0 ? (long) position * numerator / denominator : 0;
        }

        /** Converts the positions; what was rounded away is paid for by the HOUSE. */
        void convertPositions(int contract, int numerator, int denominator, int price) {
            Account house = accountAt(HOUSE);
            long sum = 0;
            for (int index = 0; index < TRADERS && denominator > 0; index++) {
                Account account = accountAt(index);
                int before = account.holds(contract);
                long after = scaled(before, numerator, denominator);
                long lost = (long) before * numerator - after * denominator;
                long paid = Math.floorDiv(lost * price, denominator);
                account.put(contract, (int) after);
                account.cash += paid;
                house.cash -= paid;
                sum += after;
            }
            house.put(contract, (int) -sum);
        }

        void forget(int contract) {
            for (Deal deal : deals) {
                if (deal.book.hasContract(contract)) {
                    deal.kept = false;
                }
            }
        }
    }

    /** The books and the orders in them, and the time that goes there. */
    private static final class Floor {
        final Book[] books;
        final Order[] orders = new Order[MOST_LIVE];
        int now;
        int day;
        int numbers;
        int turns;

        Floor(Book[] books, Account anybody) {
            this.books = books;
            for (int index = 0; index < orders.length; index++) {
                orders[index] = new Order(anybody, books[0]);
            }
        }

        void restore() {
            for (Book book : books) {
                book.restore();
            }
            for (Order order : orders) {
                order.state = GONE;
            }
            now = 0;
            day = 0;
            numbers = 0;
            turns = 0;
        }

        Book bookAt(int index) {
            return books[index >= 0 && index < books.length ? index : 0];
        }

        /** Finds a live order; null if it is gone, or never was. */
        Order find(int number) {
            for (Order order : orders) {
                if (order.state != GONE && order.number == number) {
                    return order;
                }
            }
            return null;
        }

        int countLive() {
            int count = 0;
            for (Order order : orders) {
                if (order.state != GONE) {
                    count++;
                }
            }
            return count;
        }

        /** Gives an order that is told its number and an object; null if none is free. */
        Order draw(Account owner, Book book, int limit, int quantity, int life) {
            numbers++;
            for (Order order : orders) {
                if (order.state == GONE) {
                    order.begin(numbers - 1, owner, book, limit, quantity, life);
                    return order;
                }
            }
            return null;
        }

        /** Puts an order into its book at its limit, behind all others. */
        void stand(Order order) {
            order.state = BOOKED;
            order.price = order.limit;
            order.shows = order.showable();
            order.turn = nextTurn();
        }

        int nextTurn() {
            turns++;
            return turns;
        }

        /** An order that shows nothing, but has a rest, shows anew behind all others. */
        void showAnew(Order order) {
            if (order.state == BOOKED && order.shows <= 0) {
                order.shows = order.showable();
                order.turn = nextTurn();
            }
        }

        int bestPrice(Book book, boolean buys, boolean withPegs) {
            int best = NONE;
            for (Order order : orders) {
                if (order.standsIn(book, buys) && order.price != NONE && (withPegs || order.kind != PEG)
                        && (best == NONE || order.isBetter(order.price, best))) {
                    best = order.price;
                }
            }
            return best;
        }

        /** The order whose turn is first at the best price of a side, pegs aside; null without one. */
        Order firstOf(Book book, boolean buys) {
            int best = bestPrice(book, buys, false);
            Order first = null;
            for (Order order : orders) {
                if (order.standsIn(book, buys) && order.price == best && best != NONE && order.kind != PEG
                        && (first == null || order.turn < first.turn)) {
                    first = order;
                }
            }
            return first;
        }

        int sumShown(Book book, boolean buys, int price) {
            int sum = 0;
            for (Order order : orders) {
                if (order.standsIn(book, buys) && order.price == price && price != NONE) {
                    sum += order.shows;
                }
            }
            return sum;
        }

        /** Whether an account could come beyond its limit, if it had this order, too. */
        boolean refuses(Account account, Book book, int quantity) {
            boolean buys = quantity > 0;
            int lots = Math.abs(quantity);
            if (reach(account, book.bought, buys) + lots > account.limitOf(book.bought)) {
                return true;
            }
            return book.isSpread() && reach(account, book.sold, !buys) + lots > account.limitOf(book.sold);
        }

        /** What an account could come to by buying a contract; with the other sign, if by selling. */
        private long reach(Account account, int contract, boolean byBuying) {
            long sum = byBuying ? account.holds(contract) : -account.holds(contract);
            for (Order order : orders) {
                if (order.state != GONE && order.owner == account && order.addsTo(contract, byBuying)) {
                    sum += order.rest;
                }
            }
            return sum;
        }

        int withdraw(int number) {
            Order order = find(number);
            if (order == null) {
                return 0;
            }
            order.state = GONE;
            return order.rest;
        }

        void withdrawQuote(Account account, Book book) {
            for (Order order : orders) {
                if (order.kind == QUOTE && order.owner == account && order.book == book) {
                    order.state = GONE;
                }
            }
        }

        int withdrawContract(int contract) {
            int count = 0;
            for (Order order : orders) {
                if (order.state != GONE && order.book.hasContract(contract)) {
                    order.state = GONE;
                    count++;
                }
            }
            return count;
        }

        int withdrawMember(int member) {
            int count = 0;
            for (Order order : orders) {
                if (order.state != GONE && order.owner.member == member) {
                    order.state = GONE;
                    count++;
                }
            }
            return count;
        }

        /** Counts a fall of a quote's rest; its account's quotes are all gone at its protection. */
        void guard(Order order, int lots) {
            if (order.kind != QUOTE) {
                return;
            }
            Account account = order.owner;
            account.fallen += lots;
            if (account.protection == 0 || account.fallen < account.protection) {
                return;
            }
            account.taken = true;
            for (Order other : orders) {
                if (other.kind == QUOTE && other.owner == account) {
                    other.state = GONE;
                }
            }
        }

        /** Counts a tick for each account and book in which both orders of a quote are live. */
        void countQuotes() {
            for (Order order : orders) {
                if (order.kind == QUOTE && order.state == BOOKED && order.buys && !order.book.inAuction
                        && hasOtherSide(order)) {
                    order.owner.quotedTicks++;
                }
            }
        }

        private boolean hasOtherSide(Order quote) {
            for (Order order : orders) {
                if (order.kind == QUOTE && order.owner == quote.owner && order.standsIn(quote.book, !quote.buys)) {
                    return true;
                }
            }
            return false;
        }

        boolean hasAuction() {
            for (Book book : books) {
                if (book.inAuction) {
                    return true;
                }
            }
            return false;
        }

        /** Begins an AUCTION; tells the tick in which it ends. Its pegs wait from the WORK of the same call on. */
        int beginAuction(Book book, int ticks, int freeze) {
            book.inAuction = true;
            book.extended = false;
            book.end = now + ticks;
            book.freeze = freeze;
            return book.end;
        }

        /** Opens a book: what is at any price is gone, and all show anew in their turns. */
        void openBook(Book book) {
            book.inAuction = false;
            for (Order order : orders) {
                if (order.state == BOOKED && order.book == book) {
                    if (order.limit == NONE) {
                        order.state = GONE;
                    }
                    order.shows = order.showable();
                }
            }
        }

        int turnDay() {
            int count = 0;
            for (Order order : orders) {
                if (order.state != GONE && order.life <= day) {
                    order.state = GONE;
                    count++;
                }
            }
            for (Book book : books) {
                book.reference = book.last;
            }
            day++;
            return count;
        }

        /** The stop with the lowest number that need not wait any more; null without one. */
        Order dueStop() {
            Order due = null;
            for (Order order : orders) {
                if (order.isDue() && (due == null || order.number < due.number)) {
                    due = order;
                }
            }
            return due;
        }

        /** Lets the stops wait again that a trade triggered, if they have not traded yet. */
        void holdStops(Book book, int trade) {
            for (Order order : orders) {
                if (order.kind == STOP && order.state == BOOKED && order.book == book
                        && order.cause == trade && !order.traded) {
                    order.hold();
                }
            }
        }

        void pricePegs() {
            int before = NONE;
            for (int round = 0; round < MOST_LIVE; round++) {
                Order peg = nextPeg(before);
                if (peg == null) {
                    return;
                }
                before = peg.number;
                movePeg(peg, pegPrice(peg));
            }
        }

        private Order nextPeg(int before) {
            Order next = null;
            for (Order order : orders) {
                if (order.state != GONE && order.kind == PEG && order.number > before
                        && (next == null || order.number < next.number)) {
                    next = order;
                }
            }
            return next;
        }

        private int pegPrice(Order peg) {
            int best = peg.book.inAuction ? NONE : bestPrice(peg.book, peg.buys, false);
            if (best == NONE) {
                return NONE;
            }
            int price = peg.buys ? Math.min(peg.limit, best - peg.offset) : Math.max(peg.limit, best + peg.offset);
            return peg.book.hasPrice(price) ? price : NONE;
        }

        private void movePeg(Order peg, int price) {
            if (price == NONE) {
                peg.hold();
            } else if (peg.state == WAITING || peg.price != price) {
                peg.state = BOOKED;
                peg.price = price;
                peg.shows = peg.showable();
                peg.turn = nextTurn();
            }
        }
    }

    /** Brings orders together, in an open book and at the end of an AUCTION. */
    private static final class Matcher {
        final Floor floor;
        final Ledger ledger;
        final Order[] queue = new Order[MOST_LIVE];
        final int[] gets = new int[MOST_LIVE];

        Matcher(Floor floor, Ledger ledger) {
            this.floor = floor;
            this.ledger = ledger;
            for (int place = 0; place < queue.length && place < floor.orders.length; place++) {
                queue[place] = floor.orders[place];
            }
        }

        /** What the orders of other members that a new one could meet have as rests together. */
        long reachable(Order fresh) {
            long sum = 0;
            for (Order order : floor.orders) {
                if (order.standsIn(fresh.book, !fresh.buys) && order.owner.member != fresh.owner.member
                        && fresh.allows(order.price) && !fresh.book.isBeyondBand(order.price)) {
                    sum += order.rest;
                }
            }
            return sum;
        }

        /** Matches an order in its open book; what is left of it stays there, unless it must not. */
        void match(Order fresh) {
            Book book = fresh.book;
            // It can be gone before it has no rest: the quotes of its account are taken away while it trades.
            for (int look = 0; look < MANY && fresh.state != GONE; look++) {
                int price = floor.bestPrice(book, !fresh.buys, true);
                if (price == NONE || !fresh.allows(price)) {
                    break;
                }
                if (book.isBeyondBand(price)) {
                    floor.beginAuction(book, AUCTION_TICKS, 0);
                    break;
                }
                int count = gather(fresh, price);
                if (book.self != 0 && meetsOwn(fresh, count)) {
                    if (book.self == 1) {
                        fresh.state = GONE;
                        break;
                    }
                    continue;
                }
                share(book, fresh.rest, count);
                for (int place = 0; place < count && place < queue.length && place < gets.length; place++) {
                    Order resting = queue[place];
                    int lots = gets[place];
                    if (lots > 0 && resting.state != GONE && fresh.state != GONE) {
                        strike(fresh, resting, price, lots);
                        floor.showAnew(resting);
                    }
                }
            }
            settle(fresh);
        }

        private void settle(Order fresh) {
            if (fresh.state == GONE) {
                return;
            }
            if (fresh.limit == NONE || fresh.life == NONE) {
                fresh.state = GONE;
            } else {
                floor.stand(fresh);
            }
        }

        /** Lines up the orders that a new one meets at a price, as they get their parts; tells how many. */
        private int gather(Order fresh, int price) {
            boolean bySize = fresh.book.rule == SIZE;
            int count = 0;
            for (Order order : floor.orders) {
                if (!order.standsIn(fresh.book, !fresh.buys) || order.price != price) {
                    continue;
                }
                int place = count;
                for (; place > 0 && place < queue.length; place--) {
                    Order ahead = queue[place - 1];
                    boolean isAhead = bySize && order.shows != ahead.shows
                            ? ahead.shows > order.shows : ahead.turn < order.turn;
                    if (isAhead) {
                        break;
                    }
                    queue[place] = ahead;
                }
                if (place < queue.length) {
                    queue[place] = order;
                    count++;
                }
            }
            return count;
        }

        /** Whether a new order meets one of its own member; by the self rule 2 those are gone. */
        private boolean meetsOwn(Order fresh, int count) {
            boolean meets = false;
            for (int place = 0; place < count && place < queue.length; place++) {
                Order order = queue[place];
                if (order.owner.member == fresh.owner.member) {
                    meets = true;
                    if (fresh.book.self == 2) {
                        order.state = GONE;
                    }
                }
            }
            return meets;
        }

        private void share(Book book, int rest, int count) {
            int places = Math.min(count, Math.min(queue.length, gets.length));
            int left = rest;
            for (int place = 0; place < places; place++) {
                gets[place] = 0;
            }
            if (book.rule == SHARES) {
                left -= giveTop(book.top, rest, places);
                giveShares(left, places);
                return;
            }
            for (int place = 0; place < places; place++) {
                gets[place] = Math.min(left, queue[place].shows);
                left -= gets[place];
            }
        }

        private int giveTop(int top, int rest, int places) {
            if (places <= 0 || gets.length == 0 || queue.length == 0) {
                return 0;
            }
            gets[0] = Math.min(Math.min(rest, top), queue[0].shows);
            return gets[0];
        }

        /** Shares out what is left in proportion to what is shown yet; what rounding leaves goes round by turns. */
        private void giveShares(int most, int places) {
            int open = 0;
            for (int place = 0; place < places && place < gets.length && place < queue.length; place++) {
                open += queue[place].shows - gets[place];
            }
            int all = Math.min(most, open);
            int left = all;
            for (int place = 0; place < places && place < gets.length && place < queue.length && open > 0; place++) {
                int part = all * (queue[place].shows - gets[place]) / open;
                gets[place] += part;
                left -= part;
            }
            for (int round = 0; round < MOST_LOTS && left > 0; round++) {
                for (int place = 0; place < places && place < gets.length && place < queue.length; place++) {
                    if (left > 0 && gets[place] < queue[place].shows) {
                        gets[place]++;
                        left--;
                    }
                }
            }
        }

        private void strike(Order fresh, Order resting, int price, int lots) {
            Account buyer = fresh.buys ? fresh.owner : resting.owner;
            Account seller = fresh.buys ? resting.owner : fresh.owner;
            ledger.record(fresh.book, buyer, seller, price, lots);
            fresh.fall(lots);
            resting.fall(lots);
            floor.guard(resting, lots);
            floor.guard(fresh, lots);
        }

        /** Ends an AUCTION, or extends it; whether its book is open then. */
        boolean endAuction(Book book) {
            int price = findPrice(book);
            if (price != NONE && book.isBeyondBand(price) && !book.extended) {
                book.end = floor.now + AUCTION_TICKS;
                book.extended = true;
                return false;
            }
            if (price != NONE) {
                tradeAll(book, price);
                book.reference = price;
            }
            floor.openBook(book);
            return true;
        }

        private void tradeAll(Book book, int price) {
            for (int round = 0; round < MANY; round++) {
                Order buyer = firstAt(book, true, price);
                Order seller = firstAt(book, false, price);
                if (buyer == null || seller == null) {
                    return;
                }
                strike(buyer, seller, price, Math.min(buyer.rest, seller.rest));
            }
        }

        /** The order of a side that trades first at the price of an AUCTION; null if none does. */
        private Order firstAt(Book book, boolean buys, int price) {
            Order first = null;
            for (Order order : floor.orders) {
                if (order.standsIn(book, buys) && order.allows(price)
                        && (first == null || comesBefore(order, first))) {
                    first = order;
                }
            }
            return first;
        }

        private boolean comesBefore(Order one, Order other) {
            if (one.limit == other.limit) {
                return one.turn < other.turn;
            }
            if (one.limit == NONE || other.limit == NONE) {
                return one.limit == NONE;
            }
            return one.isBetter(one.limit, other.limit);
        }

        /** The price that the AUCTION of a book would have; NONE if nothing can trade. */
        int findPrice(Book book) {
            int best = NONE;
            int most = 0;
            int least = 0;
            for (Order order : floor.orders) {
                if (order.state != BOOKED || order.book != book || order.limit == NONE) {
                    continue;
                }
                int price = order.limit;
                int volume = volumeAt(book, price);
                int difference = Math.abs(sumAt(book, true, price) - sumAt(book, false, price));
                boolean isBetter = best == NONE || volume > most;
                if (!isBetter && volume == most) {
                    isBetter = difference < least
                            || difference == least && isNearer(price, best, book.reference);
                }
                if (isBetter) {
                    best = price;
                    most = volume;
                    least = difference;
                }
            }
            int price = best == NONE ? book.reference : best;
            return volumeAt(book, price) > 0 ? price : NONE;
        }

        private static boolean isNearer(int price, int other, int reference) {
            int far = Math.abs(price - reference);
            int otherFar = Math.abs(other - reference);
            return far < otherFar || far == otherFar && price < other;
        }

        int volumeAt(Book book, int price) {
            return Math.min(sumAt(book, true, price), sumAt(book, false, price));
        }

        private int sumAt(Book book, boolean buys, int price) {
            int sum = 0;
            for (Order order : floor.orders) {
                if (order.standsIn(book, buys) && order.allows(price)) {
                    sum += order.rest;
                }
            }
            return sum;
        }
    }

    /** Makes the trades that are implied by spreads. */
    private static final class Combiner {
        final Floor floor;
        final Ledger ledger;

        Combiner(Floor floor, Ledger ledger) {
            this.floor = floor;
            this.ledger = ledger;
        }

        /** Makes A or C (of one who buys a spread), B or D (of one who sells it), if it can be made. */
        boolean makePair(int spreadIndex, boolean buys) {
            Book spread = floor.bookAt(spreadIndex);
            Book near = floor.bookAt(spread.bought);
            Book far = floor.bookAt(spread.sold);
            if (spread.inAuction || near.inAuction || far.inAuction) {
                return false;
            }
            Order first = floor.firstOf(spread, buys);
            Order second = floor.firstOf(near, !buys);
            Order third = floor.firstOf(far, buys);
            if (first == null || second == null || third == null) {
                return false;
            }
            int gap = second.price - third.price;
            if (buys ? first.price < gap : first.price > gap) {
                return false;
            }
            if (isBarred(near, second.price, first, second) || isBarred(far, third.price, first, third)) {
                return false;
            }
            int lots = Math.min(first.shows, Math.min(second.shows, third.shows));
            record(near, buys, first, second, second.price, lots);
            record(far, !buys, first, third, third.price, lots);
            fallTogether(first, second, third, null, lots);
            return true;
        }

        /** Makes E (of those who buy both spreads) or F (of those who sell them), if it can be made. */
        boolean makeChain(boolean buys) {
            Book near = floor.bookAt(0);
            Book middle = floor.bookAt(1);
            Book far = floor.bookAt(2);
            if (floor.bookAt(4).inAuction || floor.bookAt(5).inAuction
                    || near.inAuction || middle.inAuction || far.inAuction) {
                return false;
            }
            Order first = floor.firstOf(floor.bookAt(4), buys);
            Order second = floor.firstOf(floor.bookAt(5), buys);
            Order third = floor.firstOf(near, !buys);
            Order fourth = floor.firstOf(far, buys);
            if (first == null || second == null || third == null || fourth == null) {
                return false;
            }
            int sum = first.price + second.price;
            int gap = third.price - fourth.price;
            if (buys ? sum < gap : sum > gap) {
                return false;
            }
            int price = second.price + fourth.price;
            if (isBarred(near, third.price, first, third) || isBarred(middle, price, first, second)
                    || isBarred(far, fourth.price, second, fourth)) {
                return false;
            }
            int lots = Math.min(Math.min(first.shows, second.shows), Math.min(third.shows, fourth.shows));
            record(near, buys, first, third, third.price, lots);
            record(middle, buys, second, first, price, lots);
            record(far, !buys, second, fourth, fourth.price, lots);
            fallTogether(first, second, third, fourth, lots);
            return true;
        }

        private static boolean isBarred(Book book, int price, Order one, Order other) {
            return !book.hasPrice(price) || book.isBeyondBand(price)
                    || book.self != 0 && one.owner.member == other.owner.member;
        }

        private void record(Book book, boolean buys, Order one, Order other, int price, int lots) {
            Account buyer = buys ? one.owner : other.owner;
            Account seller = buys ? other.owner : one.owner;
            ledger.record(book, buyer, seller, price, lots);
        }

        /** All rests fall before a protection is looked at: a combination is made whole ahead of that. */
        private void fallTogether(Order first, Order second, Order third, Order fourth, int lots) {
            first.fall(lots);
            second.fall(lots);
            third.fall(lots);
            if (fourth != null) {
                fourth.fall(lots);
                floor.guard(fourth, lots);
                floor.showAnew(fourth);
            }
            floor.guard(first, lots);
            floor.guard(second, lots);
            floor.guard(third, lots);
            floor.showAnew(first);
            floor.showAnew(second);
            floor.showAnew(third);
        }
    }

    /** A member: its collateral, its fund, and what it bids. */
    private static final class Member {
        int money;
        int units;
        int fund;
        boolean failed;
        boolean hasBid;
        int bidAmount;
        int fundAtStart;
        long part;
        long given;

        void restore() {
            money = 0;
            units = 0;
            fund = 200;
            failed = false;
            forgetBid();
        }

        void forgetBid() {
            hasBid = false;
            bidAmount = 0;
        }
    }

    /** The margins of the members, and what is done when one fails. */
    private static final class Clearing {
        final Floor floor;
        final Ledger ledger;
        final Member[] members = new Member[MEMBERS];
        final int[][] moves = new int[SCENARIOS][CONTRACTS];
        int haircut;
        int stake;
        // The member that failed and is not closed out yet; NONE without one.
        int open;
        // Of a close-out: what is not covered yet, and the last layer that gave something.
        long loss;
        int deepest;

        Clearing(Floor floor, Ledger ledger) {
            this.floor = floor;
            this.ledger = ledger;
            for (int index = 0; index < members.length; index++) {
                members[index] = new Member();
            }
        }

        void restore() {
            for (Member member : members) {
                member.restore();
            }
            for (int[] row : moves) {
                for (int contract = 0; contract < row.length; contract++) {
                    row[contract] = 0;
                }
            }
            haircut = 0;
            stake = 500;
            open = NONE;
        }

        Member memberAt(int index) {
            return members[index >= 0 && index < members.length ? index : 0];
        }

        Account lowerOf(int member) {
            return ledger.accountAt(2 * member);
        }

        Account upperOf(int member) {
            return ledger.accountAt(2 * member + 1);
        }

        long tell(int index, int what) {
            Member member = memberAt(index);
            switch (what) {
                case 0: return riskOf(index, member.units);
                case 1: return valueOf(index);
                case 2: return callOf(index, member.money, member.units);
                case 3: return member.money;
                case 4: return member.units;
                case 5: return member.fund;
                default: return member.failed ? 1 : 0;
            }
        }

        private long netOf(int member, int contract) {
            Account lower = ledger.accountAt(2 * member);
            Account upper = ledger.accountAt(2 * member + 1);
            return (long) lower.holds(contract) + upper.holds(contract);
        }

        private int moveOf(int scenario, int contract) {
            if (scenario < 0 || scenario >= moves.length) {
                return 0;
            }
            int[] row = moves[scenario];
            return contract >= 0 && contract < row.length ? row[contract] : 0;
        }

        private long riskOf(int member, int units) {
            long most = 0;
            for (int scenario = 0; scenario < SCENARIOS; scenario++) {
                long gain = (long) units * moveOf(scenario, 1);
                for (int contract = 0; contract < CONTRACTS; contract++) {
                    gain += netOf(member, contract) * moveOf(scenario, contract);
                }
                most = Math.max(most, -gain);
            }
            for (int contract = 0; contract < CONTRACTS; contract++) {
                most += 5 * Math.max(0, Math.abs(netOf(member, contract)) - 30);
            }
            return most;
        }

        private long worthOf(int member) {
            long worth = 0;
            for (int contract = 0; contract < CONTRACTS; contract++) {
                worth += netOf(member, contract) * floor.bookAt(contract).last;
            }
            return worth;
        }

        private long valueOf(int member) {
            return lowerOf(member).cash + upperOf(member).cash + worthOf(member);
        }

        private long callOf(int member, int money, int units) {
            long worth = Math.floorDiv((long) units * floor.bookAt(1).last * (100 - haircut), 100L);
            return Math.max(0, riskOf(member, units) - valueOf(member) - money - worth);
        }

        boolean canPay(int index, int money, int units) {
            Member member = memberAt(index);
            int newMoney = member.money + money;
            int newUnits = member.units + units;
            if (member.failed || newMoney < 0 || newUnits < 0) {
                return false;
            }
            return money >= 0 && units >= 0 || callOf(index, newMoney, newUnits) == 0;
        }

        int bring(int index, int money, int units) {
            Member member = memberAt(index);
            member.money += money;
            member.units += units;
            return (int) callOf(index, member.money, member.units);
        }

        int changeMove(int scenario, int contract, int move) {
            int before = moveOf(scenario, contract);
            if (scenario >= 0 && scenario < moves.length) {
                int[] row = moves[scenario];
                if (contract >= 0 && contract < row.length) {
                    row[contract] = move;
                }
            }
            return before;
        }

        int changeHaircut(int percent) {
            int before = haircut;
            haircut = percent;
            return before;
        }

        int changeFund(int index, int amount) {
            Member member = memberAt(index);
            int before = member.fund;
            member.fund = amount;
            return before;
        }

        boolean canFail(int index) {
            Member member = memberAt(index);
            return open == NONE && !member.failed && callOf(index, member.money, member.units) > 0;
        }

        void fall(int index) {
            memberAt(index).failed = true;
            open = index;
        }

        int takeBid(int index, int amount) {
            Member bidder = memberAt(index);
            bidder.hasBid = true;
            bidder.bidAmount = amount;
            int count = 0;
            for (Member member : members) {
                if (member.hasBid) {
                    count++;
                }
            }
            return count;
        }

        /** The member that bids most, of several the lowest; NONE without bids. */
        private int highestBidder() {
            int highest = NONE;
            for (int index = 0; index < MEMBERS; index++) {
                Member member = memberAt(index);
                if (member.hasBid && (highest == NONE || member.bidAmount > memberAt(highest).bidAmount)) {
                    highest = index;
                }
            }
            return highest;
        }

        int closePortfolio() {
            if (open == NONE) {
                return 0;
            }
            int winner = highestBidder();
            handOver(winner);
            cover(winner);
            for (Member member : members) {
                member.forgetBid();
            }
            open = NONE;
            return deepest;
        }

        private void handOver(int winner) {
            Account lower = lowerOf(open);
            Account upper = upperOf(open);
            Account taker = winner == NONE ? ledger.accountAt(HOUSE) : lowerOf(winner);
            long amount = winner == NONE ? worthOf(open) : memberAt(winner).bidAmount;
            for (int contract = 0; contract < CONTRACTS; contract++) {
                int net = (int) netOf(open, contract);
                taker.put(contract, taker.holds(contract) + net);
                lower.put(contract, 0);
                upper.put(contract, 0);
            }
            taker.cash -= amount;
            lower.cash += upper.cash + amount;
            upper.cash = 0;
        }

        /** Covers what the lower account lacks, layer by layer; the loss stands for that from here on. */
        private void cover(int winner) {
            Member failed = memberAt(open);
            Account lower = lowerOf(open);
            loss = Math.max(0, -lower.cash);
            deepest = 0;
            lower.cash += loss;
            for (Member member : members) {
                member.fundAtStart = member.fund;
            }
            failed.money -= (int) give(1, failed.money);
            lower.cash += sellUnits(failed);
            failed.fund -= (int) give(3, failed.fund);
            stake -= (int) give(4, stake);
            for (int layer = 5; layer <= 7; layer++) {
                shareLayer(layer, winner);
            }
            ledger.accountAt(HOUSE).cash -= give(8, loss);
        }

        private long give(int layer, long most) {
            long given = Math.min(loss, most);
            if (given <= 0) {
                return 0;
            }
            loss -= given;
            deepest = layer;
            return given;
        }

        /** Sells as many units to the HOUSE as are needed; tells what comes above the loss. */
        private long sellUnits(Member failed) {
            int price = floor.bookAt(1).last;
            if (loss <= 0 || failed.units <= 0 || price <= 0) {
                return 0;
            }
            long needed = -Math.floorDiv(-loss, (long) price);
            int units = (int) Math.min(failed.units, needed);
            long paid = (long) units * price;
            failed.units -= units;
            ledger.accountAt(HOUSE).cash -= paid;
            return paid - give(2, paid);
        }

        /** Whether a member that has not failed gives in a layer, by its bid against the highest one. */
        private boolean givesIn(int layer, Member member, int winner) {
            if (member.failed) {
                return false;
            }
            boolean isJunior = !member.hasBid || memberAt(winner).bidAmount - member.bidAmount > 100;
            return layer == 7 || isJunior == (layer == 5);
        }

        private void shareLayer(int layer, int winner) {
            boolean isAssessment = layer == 7;
            for (Member member : members) {
                int most = isAssessment ? member.fundAtStart : member.fund;
                member.part = givesIn(layer, member, winner) ? most : 0;
            }
            shareLoss(layer);
            for (int index = 0; index < MEMBERS; index++) {
                Member member = memberAt(index);
                if (isAssessment) {
                    lowerOf(index).cash -= member.given;
                } else {
                    member.fund -= (int) member.given;
                }
            }
        }

        /** Shares the loss out over the parts of the members; what rounding leaves goes round by one each. */
        private void shareLoss(int layer) {
            long all = 0;
            for (Member member : members) {
                all += member.part;
                member.given = 0;
            }
            long whole = give(layer, all);
            long left = whole;
            for (Member member : members) {
                if (all > 0) {
                    member.given = whole * member.part / all;
                    left -= member.given;
                }
            }
            for (int round = 0; round < MEMBERS && left > 0; round++) {
                for (Member member : members) {
                    if (left > 0 && member.given < member.part) {
                        member.given++;
                        left--;
                    }
                }
            }
        }
    }

    /** All that is there at one time, and the calls that change more than one part of it. */
    private static final class Exchange {
        final Floor floor;
        final Ledger ledger;
        final Matcher matcher;
        final Combiner combiner;
        final Clearing clearing;

        Exchange() {
            Book[] books = new Book[BOOKS];
            for (int index = 0; index < books.length; index++) {
                books[index] = new Book(index);
            }
            ledger = new Ledger(books[0]);
            floor = new Floor(books, ledger.accountAt(HOUSE));
            matcher = new Matcher(floor, ledger);
            combiner = new Combiner(floor, ledger);
            clearing = new Clearing(floor, ledger);
            restore();
        }

        void restore() {
            floor.restore();
            ledger.restore();
            clearing.restore();
        }

        /** Whether an account may have this order besides all others. */
        boolean admits(int account, int book, int quantity) {
            Account owner = ledger.accountAt(account);
            return !clearing.memberAt(owner.member).failed && floor.countLive() < MOST_LIVE
                    && !floor.refuses(owner, floor.bookAt(book), quantity);
        }

        int tellLimit(int account, int book, int price, int quantity, int least, int life) {
            int lastDay = life == NONE ? NONE : floor.day + life;
            Order order = floor.draw(ledger.accountAt(account), floor.bookAt(book), price, quantity, lastDay);
            if (order == null) {
                return NONE;
            }
            if (least > 0 && matcher.reachable(order) < least) {
                order.state = GONE;
            } else {
                place(order);
            }
            return order.number;
        }

        int tellMarket(int account, int book, int quantity) {
            Order order = floor.draw(ledger.accountAt(account), floor.bookAt(book), NONE, quantity, floor.day);
            if (order == null) {
                return NONE;
            }
            place(order);
            return order.number;
        }

        int tellIceberg(int account, int book, int price, int quantity, int show) {
            Order order = floor.draw(ledger.accountAt(account), floor.bookAt(book), price, quantity, floor.day);
            if (order == null) {
                return NONE;
            }
            order.show = show;
            place(order);
            return order.number;
        }

        int tellPeg(int account, int book, int price, int quantity, int offset) {
            Order order = floor.draw(ledger.accountAt(account), floor.bookAt(book), price, quantity, floor.day);
            if (order == null) {
                return NONE;
            }
            order.kind = PEG;
            order.offset = offset;
            return order.number;
        }

        int tellStop(int account, int book, int trigger, int price, int quantity) {
            int limit = price == 0 ? NONE : price;
            Order order = floor.draw(ledger.accountAt(account), floor.bookAt(book), limit, quantity, floor.day);
            if (order == null) {
                return NONE;
            }
            order.kind = STOP;
            order.trigger = trigger;
            return order.number;
        }

        int tellQuote(int account, int book, int bid, int ask, int quantity) {
            Account owner = ledger.accountAt(account);
            floor.withdrawQuote(owner, floor.bookAt(book));
            owner.fallen = 0;
            owner.taken = false;
            int number = floor.numbers;
            Order toBuy = floor.draw(owner, floor.bookAt(book), bid, quantity, floor.day);
            if (toBuy != null) {
                toBuy.kind = QUOTE;
                place(toBuy);
            }
            if (owner.taken) {
                floor.numbers++;
                return number;
            }
            Order toSell = floor.draw(owner, floor.bookAt(book), ask, -quantity, floor.day);
            if (toSell != null) {
                toSell.kind = QUOTE;
                place(toSell);
            }
            return number;
        }

        private void place(Order order) {
            if (order.book.inAuction) {
                floor.stand(order);
            } else {
                matcher.match(order);
            }
        }

        int letPass(int ticks) {
            for (int tick = 0; tick < ticks; tick++) {
                floor.now++;
                floor.countQuotes();
                for (Book book : floor.books) {
                    if (book.inAuction && book.end <= floor.now && matcher.endAuction(book)) {
                        work();
                    }
                }
            }
            return floor.now;
        }

        /** Busts a trade; tells the last price of its book then. */
        int undo(int trade) {
            int last = ledger.reverse(trade);
            Deal deal = ledger.find(trade);
            if (deal != null) {
                floor.holdStops(deal.book, trade);
            }
            return last;
        }

        int convertContract(int contract, int numerator, int denominator) {
            int gone = floor.withdrawContract(contract);
            ledger.forget(contract);
            Book book = floor.bookAt(contract);
            book.last = convertPrice(book.last, numerator, denominator);
            book.reference = convertPrice(book.reference, numerator, denominator);
            ledger.convertPositions(contract, numerator, denominator, book.last);
            return gone;
        }

        private static int convertPrice(int price, int numerator, int denominator) {
            int converted = numerator > 0 ? price * denominator / numerator : price;
            return Math.max(1, Math.min(MOST_PRICE, converted));
        }

        int failMember(int member) {
            clearing.fall(member);
            return floor.withdrawMember(member);
        }

        /** What comes behind each call, and behind each book that is opened: stops, combinations, and pegs. */
        void work() {
            for (int step = 0; step < MANY; step++) {
                Order stop = floor.dueStop();
                if (stop != null) {
                    stop.cause = ledger.latestOf(stop.book);
                    matcher.match(stop);
                } else if (!combiner.makePair(4, true) && !combiner.makePair(4, false)
                        && !combiner.makePair(5, true) && !combiner.makePair(5, false)
                        && !combiner.makeChain(true) && !combiner.makeChain(false)) {
                    break;
                }
            }
            floor.pricePegs();
        }
    }
}
